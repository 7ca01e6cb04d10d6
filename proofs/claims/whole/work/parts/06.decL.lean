theorem dL_addKettle_0 : decode cL_addKettle 0 = .ok (.aload_n 2, 1) := by decide +kernel
theorem dL_addKettle_1 : decode cL_addKettle 1 = .ok (.iconst 0, 1) := by decide +kernel
theorem dL_addKettle_2 : decode cL_addKettle 2 = .ok (.aload_n 0, 1) := by decide +kernel
theorem dL_addKettle_3 : decode cL_addKettle 3 = .ok (.iload_n 1, 1) := by decide +kernel
theorem dL_addKettle_4 : decode cL_addKettle 4 = .ok (.invokevirtual 7, 3) := by decide +kernel
theorem dL_addKettle_7 : decode cL_addKettle 7 = .ok (.i2l, 1) := by decide +kernel
theorem dL_addKettle_8 : decode cL_addKettle 8 = .ok (.lastore, 1) := by decide +kernel
theorem dL_addKettle_9 : decode cL_addKettle 9 = .ok (.goto 9, 3) := by decide +kernel
theorem dL_addKettle_12 : decode cL_addKettle 12 = .ok (.astore_n 3, 1) := by decide +kernel
theorem dL_addKettle_13 : decode cL_addKettle 13 = .ok (.iconst 1, 1) := by decide +kernel
theorem dL_addKettle_14 : decode cL_addKettle 14 = .ok (.ireturn, 1) := by decide +kernel
theorem dL_addKettle_15 : decode cL_addKettle 15 = .ok (.astore_n 3, 1) := by decide +kernel
theorem dL_addKettle_16 : decode cL_addKettle 16 = .ok (.iconst 2, 1) := by decide +kernel
theorem dL_addKettle_17 : decode cL_addKettle 17 = .ok (.ireturn, 1) := by decide +kernel
theorem dL_addKettle_18 : decode cL_addKettle 18 = .ok (.iconst 0, 1) := by decide +kernel
theorem dL_addKettle_19 : decode cL_addKettle 19 = .ok (.ireturn, 1) := by decide +kernel
theorem dL_fill_0 : decode cL_fill 0 = .ok (.aload_n 3, 1) := by decide +kernel
theorem dL_fill_1 : decode cL_fill 1 = .ok (.iconst 0, 1) := by decide +kernel
theorem dL_fill_2 : decode cL_fill 2 = .ok (.aload_n 0, 1) := by decide +kernel
theorem dL_fill_3 : decode cL_fill 3 = .ok (.iload_n 1, 1) := by decide +kernel
theorem dL_fill_4 : decode cL_fill 4 = .ok (.iload_n 2, 1) := by decide +kernel
theorem dL_fill_5 : decode cL_fill 5 = .ok (.invokevirtual 17, 3) := by decide +kernel
theorem dL_fill_8 : decode cL_fill 8 = .ok (.f2d, 1) := by decide +kernel
theorem dL_fill_9 : decode cL_fill 9 = .ok (.dastore, 1) := by decide +kernel
theorem dL_fill_10 : decode cL_fill 10 = .ok (.goto 15, 3) := by decide +kernel
theorem dL_fill_13 : decode cL_fill 13 = .ok (.astore 4, 2) := by decide +kernel
theorem dL_fill_15 : decode cL_fill 15 = .ok (.iconst 1, 1) := by decide +kernel
theorem dL_fill_16 : decode cL_fill 16 = .ok (.ireturn, 1) := by decide +kernel
theorem dL_fill_17 : decode cL_fill 17 = .ok (.astore 4, 2) := by decide +kernel
theorem dL_fill_19 : decode cL_fill 19 = .ok (.iconst 2, 1) := by decide +kernel
theorem dL_fill_20 : decode cL_fill 20 = .ok (.ireturn, 1) := by decide +kernel
theorem dL_fill_21 : decode cL_fill 21 = .ok (.astore 4, 2) := by decide +kernel
theorem dL_fill_23 : decode cL_fill 23 = .ok (.iconst 3, 1) := by decide +kernel
theorem dL_fill_24 : decode cL_fill 24 = .ok (.ireturn, 1) := by decide +kernel
theorem dL_fill_25 : decode cL_fill 25 = .ok (.iconst 0, 1) := by decide +kernel
theorem dL_fill_26 : decode cL_fill 26 = .ok (.ireturn, 1) := by decide +kernel
theorem dL_setBurner_0 : decode cL_setBurner 0 = .ok (.aload_n 3, 1) := by decide +kernel
theorem dL_setBurner_1 : decode cL_setBurner 1 = .ok (.iconst 0, 1) := by decide +kernel
theorem dL_setBurner_2 : decode cL_setBurner 2 = .ok (.aload_n 0, 1) := by decide +kernel
theorem dL_setBurner_3 : decode cL_setBurner 3 = .ok (.iload_n 1, 1) := by decide +kernel
theorem dL_setBurner_4 : decode cL_setBurner 4 = .ok (.iload_n 2, 1) := by decide +kernel
theorem dL_setBurner_5 : decode cL_setBurner 5 = .ok (.invokevirtual 23, 3) := by decide +kernel
theorem dL_setBurner_8 : decode cL_setBurner 8 = .ok (.i2l, 1) := by decide +kernel
theorem dL_setBurner_9 : decode cL_setBurner 9 = .ok (.lastore, 1) := by decide +kernel
theorem dL_setBurner_10 : decode cL_setBurner 10 = .ok (.goto 11, 3) := by decide +kernel
theorem dL_setBurner_13 : decode cL_setBurner 13 = .ok (.astore 4, 2) := by decide +kernel
theorem dL_setBurner_15 : decode cL_setBurner 15 = .ok (.iconst 1, 1) := by decide +kernel
theorem dL_setBurner_16 : decode cL_setBurner 16 = .ok (.ireturn, 1) := by decide +kernel
theorem dL_setBurner_17 : decode cL_setBurner 17 = .ok (.astore 4, 2) := by decide +kernel
theorem dL_setBurner_19 : decode cL_setBurner 19 = .ok (.iconst 2, 1) := by decide +kernel
theorem dL_setBurner_20 : decode cL_setBurner 20 = .ok (.ireturn, 1) := by decide +kernel
theorem dL_setBurner_21 : decode cL_setBurner 21 = .ok (.iconst 0, 1) := by decide +kernel
theorem dL_setBurner_22 : decode cL_setBurner 22 = .ok (.ireturn, 1) := by decide +kernel
theorem dL_order_0 : decode cL_order 0 = .ok (.aload 5, 2) := by decide +kernel
theorem dL_order_2 : decode cL_order 2 = .ok (.iconst 0, 1) := by decide +kernel
theorem dL_order_3 : decode cL_order 3 = .ok (.aload_n 0, 1) := by decide +kernel
theorem dL_order_4 : decode cL_order 4 = .ok (.iload_n 1, 1) := by decide +kernel
theorem dL_order_5 : decode cL_order 5 = .ok (.iload_n 2, 1) := by decide +kernel
theorem dL_order_6 : decode cL_order 6 = .ok (.iload_n 3, 1) := by decide +kernel
theorem dL_order_7 : decode cL_order 7 = .ok (.iload 4, 2) := by decide +kernel
theorem dL_order_9 : decode cL_order 9 = .ok (.invokevirtual 27, 3) := by decide +kernel
theorem dL_order_12 : decode cL_order 12 = .ok (.i2l, 1) := by decide +kernel
theorem dL_order_13 : decode cL_order 13 = .ok (.lastore, 1) := by decide +kernel
theorem dL_order_14 : decode cL_order 14 = .ok (.goto 11, 3) := by decide +kernel
theorem dL_order_17 : decode cL_order 17 = .ok (.astore 6, 2) := by decide +kernel
theorem dL_order_19 : decode cL_order 19 = .ok (.iconst 1, 1) := by decide +kernel
theorem dL_order_20 : decode cL_order 20 = .ok (.ireturn, 1) := by decide +kernel
theorem dL_order_21 : decode cL_order 21 = .ok (.astore 6, 2) := by decide +kernel
theorem dL_order_23 : decode cL_order 23 = .ok (.iconst 2, 1) := by decide +kernel
theorem dL_order_24 : decode cL_order 24 = .ok (.ireturn, 1) := by decide +kernel
theorem dL_order_25 : decode cL_order 25 = .ok (.iconst 0, 1) := by decide +kernel
theorem dL_order_26 : decode cL_order 26 = .ok (.ireturn, 1) := by decide +kernel
theorem dL_cancel_0 : decode cL_cancel 0 = .ok (.aload_n 2, 1) := by decide +kernel
theorem dL_cancel_1 : decode cL_cancel 1 = .ok (.iconst 0, 1) := by decide +kernel
theorem dL_cancel_2 : decode cL_cancel 2 = .ok (.aload_n 0, 1) := by decide +kernel
theorem dL_cancel_3 : decode cL_cancel 3 = .ok (.iload_n 1, 1) := by decide +kernel
theorem dL_cancel_4 : decode cL_cancel 4 = .ok (.invokevirtual 31, 3) := by decide +kernel
theorem dL_cancel_7 : decode cL_cancel 7 = .ok (.i2l, 1) := by decide +kernel
theorem dL_cancel_8 : decode cL_cancel 8 = .ok (.lastore, 1) := by decide +kernel
theorem dL_cancel_9 : decode cL_cancel 9 = .ok (.goto 6, 3) := by decide +kernel
theorem dL_cancel_12 : decode cL_cancel 12 = .ok (.astore_n 3, 1) := by decide +kernel
theorem dL_cancel_13 : decode cL_cancel 13 = .ok (.iconst 1, 1) := by decide +kernel
theorem dL_cancel_14 : decode cL_cancel 14 = .ok (.ireturn, 1) := by decide +kernel
theorem dL_cancel_15 : decode cL_cancel 15 = .ok (.iconst 0, 1) := by decide +kernel
theorem dL_cancel_16 : decode cL_cancel 16 = .ok (.ireturn, 1) := by decide +kernel
theorem dL_serveNext_0 : decode cL_serveNext 0 = .ok (.aload_n 1, 1) := by decide +kernel
theorem dL_serveNext_1 : decode cL_serveNext 1 = .ok (.iconst 0, 1) := by decide +kernel
theorem dL_serveNext_2 : decode cL_serveNext 2 = .ok (.aload_n 0, 1) := by decide +kernel
theorem dL_serveNext_3 : decode cL_serveNext 3 = .ok (.invokevirtual 36, 3) := by decide +kernel
theorem dL_serveNext_6 : decode cL_serveNext 6 = .ok (.i2l, 1) := by decide +kernel
theorem dL_serveNext_7 : decode cL_serveNext 7 = .ok (.lastore, 1) := by decide +kernel
theorem dL_serveNext_8 : decode cL_serveNext 8 = .ok (.goto 6, 3) := by decide +kernel
theorem dL_serveNext_11 : decode cL_serveNext 11 = .ok (.astore_n 2, 1) := by decide +kernel
theorem dL_serveNext_12 : decode cL_serveNext 12 = .ok (.iconst 1, 1) := by decide +kernel
theorem dL_serveNext_13 : decode cL_serveNext 13 = .ok (.ireturn, 1) := by decide +kernel
theorem dL_serveNext_14 : decode cL_serveNext 14 = .ok (.iconst 0, 1) := by decide +kernel
theorem dL_serveNext_15 : decode cL_serveNext 15 = .ok (.ireturn, 1) := by decide +kernel
theorem dL_wash_0 : decode cL_wash 0 = .ok (.aload_n 2, 1) := by decide +kernel
theorem dL_wash_1 : decode cL_wash 1 = .ok (.iconst 0, 1) := by decide +kernel
theorem dL_wash_2 : decode cL_wash 2 = .ok (.aload_n 0, 1) := by decide +kernel
theorem dL_wash_3 : decode cL_wash 3 = .ok (.iload_n 1, 1) := by decide +kernel
theorem dL_wash_4 : decode cL_wash 4 = .ok (.invokevirtual 40, 3) := by decide +kernel
theorem dL_wash_7 : decode cL_wash 7 = .ok (.i2l, 1) := by decide +kernel
theorem dL_wash_8 : decode cL_wash 8 = .ok (.lastore, 1) := by decide +kernel
theorem dL_wash_9 : decode cL_wash 9 = .ok (.goto 9, 3) := by decide +kernel
theorem dL_wash_12 : decode cL_wash 12 = .ok (.astore_n 3, 1) := by decide +kernel
theorem dL_wash_13 : decode cL_wash 13 = .ok (.iconst 1, 1) := by decide +kernel
theorem dL_wash_14 : decode cL_wash 14 = .ok (.ireturn, 1) := by decide +kernel
theorem dL_wash_15 : decode cL_wash 15 = .ok (.astore_n 3, 1) := by decide +kernel
theorem dL_wash_16 : decode cL_wash 16 = .ok (.iconst 2, 1) := by decide +kernel
theorem dL_wash_17 : decode cL_wash 17 = .ok (.ireturn, 1) := by decide +kernel
theorem dL_wash_18 : decode cL_wash 18 = .ok (.iconst 0, 1) := by decide +kernel
theorem dL_wash_19 : decode cL_wash 19 = .ok (.ireturn, 1) := by decide +kernel
theorem dL_sellSteam_0 : decode cL_sellSteam 0 = .ok (.aload_n 2, 1) := by decide +kernel
theorem dL_sellSteam_1 : decode cL_sellSteam 1 = .ok (.iconst 0, 1) := by decide +kernel
theorem dL_sellSteam_2 : decode cL_sellSteam 2 = .ok (.aload_n 0, 1) := by decide +kernel
theorem dL_sellSteam_3 : decode cL_sellSteam 3 = .ok (.iload_n 1, 1) := by decide +kernel
theorem dL_sellSteam_4 : decode cL_sellSteam 4 = .ok (.invokevirtual 43, 3) := by decide +kernel
theorem dL_sellSteam_7 : decode cL_sellSteam 7 = .ok (.f2d, 1) := by decide +kernel
theorem dL_sellSteam_8 : decode cL_sellSteam 8 = .ok (.dastore, 1) := by decide +kernel
theorem dL_sellSteam_9 : decode cL_sellSteam 9 = .ok (.goto 9, 3) := by decide +kernel
theorem dL_sellSteam_12 : decode cL_sellSteam 12 = .ok (.astore_n 3, 1) := by decide +kernel
theorem dL_sellSteam_13 : decode cL_sellSteam 13 = .ok (.iconst 1, 1) := by decide +kernel
theorem dL_sellSteam_14 : decode cL_sellSteam 14 = .ok (.ireturn, 1) := by decide +kernel
theorem dL_sellSteam_15 : decode cL_sellSteam 15 = .ok (.astore_n 3, 1) := by decide +kernel
theorem dL_sellSteam_16 : decode cL_sellSteam 16 = .ok (.iconst 2, 1) := by decide +kernel
theorem dL_sellSteam_17 : decode cL_sellSteam 17 = .ok (.ireturn, 1) := by decide +kernel
theorem dL_sellSteam_18 : decode cL_sellSteam 18 = .ok (.iconst 0, 1) := by decide +kernel
theorem dL_sellSteam_19 : decode cL_sellSteam 19 = .ok (.ireturn, 1) := by decide +kernel
theorem dL_setCupPrice_0 : decode cL_setCupPrice 0 = .ok (.aload_n 2, 1) := by decide +kernel
theorem dL_setCupPrice_1 : decode cL_setCupPrice 1 = .ok (.iconst 0, 1) := by decide +kernel
theorem dL_setCupPrice_2 : decode cL_setCupPrice 2 = .ok (.aload_n 0, 1) := by decide +kernel
theorem dL_setCupPrice_3 : decode cL_setCupPrice 3 = .ok (.iload_n 1, 1) := by decide +kernel
theorem dL_setCupPrice_4 : decode cL_setCupPrice 4 = .ok (.invokevirtual 47, 3) := by decide +kernel
theorem dL_setCupPrice_7 : decode cL_setCupPrice 7 = .ok (.f2d, 1) := by decide +kernel
theorem dL_setCupPrice_8 : decode cL_setCupPrice 8 = .ok (.dastore, 1) := by decide +kernel
theorem dL_setCupPrice_9 : decode cL_setCupPrice 9 = .ok (.goto 6, 3) := by decide +kernel
theorem dL_setCupPrice_12 : decode cL_setCupPrice 12 = .ok (.astore_n 3, 1) := by decide +kernel
theorem dL_setCupPrice_13 : decode cL_setCupPrice 13 = .ok (.iconst 1, 1) := by decide +kernel
theorem dL_setCupPrice_14 : decode cL_setCupPrice 14 = .ok (.ireturn, 1) := by decide +kernel
theorem dL_setCupPrice_15 : decode cL_setCupPrice 15 = .ok (.iconst 0, 1) := by decide +kernel
theorem dL_setCupPrice_16 : decode cL_setCupPrice 16 = .ok (.ireturn, 1) := by decide +kernel
theorem dL_setSteamPrice_0 : decode cL_setSteamPrice 0 = .ok (.aload_n 2, 1) := by decide +kernel
theorem dL_setSteamPrice_1 : decode cL_setSteamPrice 1 = .ok (.iconst 0, 1) := by decide +kernel
theorem dL_setSteamPrice_2 : decode cL_setSteamPrice 2 = .ok (.aload_n 0, 1) := by decide +kernel
theorem dL_setSteamPrice_3 : decode cL_setSteamPrice 3 = .ok (.iload_n 1, 1) := by decide +kernel
theorem dL_setSteamPrice_4 : decode cL_setSteamPrice 4 = .ok (.invokevirtual 50, 3) := by decide +kernel
theorem dL_setSteamPrice_7 : decode cL_setSteamPrice 7 = .ok (.f2d, 1) := by decide +kernel
theorem dL_setSteamPrice_8 : decode cL_setSteamPrice 8 = .ok (.dastore, 1) := by decide +kernel
theorem dL_setSteamPrice_9 : decode cL_setSteamPrice 9 = .ok (.goto 6, 3) := by decide +kernel
theorem dL_setSteamPrice_12 : decode cL_setSteamPrice 12 = .ok (.astore_n 3, 1) := by decide +kernel
theorem dL_setSteamPrice_13 : decode cL_setSteamPrice 13 = .ok (.iconst 1, 1) := by decide +kernel
theorem dL_setSteamPrice_14 : decode cL_setSteamPrice 14 = .ok (.ireturn, 1) := by decide +kernel
theorem dL_setSteamPrice_15 : decode cL_setSteamPrice 15 = .ok (.iconst 0, 1) := by decide +kernel
theorem dL_setSteamPrice_16 : decode cL_setSteamPrice 16 = .ok (.ireturn, 1) := by decide +kernel
theorem dL_pass_0 : decode cL_pass 0 = .ok (.aload_n 2, 1) := by decide +kernel
theorem dL_pass_1 : decode cL_pass 1 = .ok (.iconst 0, 1) := by decide +kernel
theorem dL_pass_2 : decode cL_pass 2 = .ok (.aload_n 0, 1) := by decide +kernel
theorem dL_pass_3 : decode cL_pass 3 = .ok (.iload_n 1, 1) := by decide +kernel
theorem dL_pass_4 : decode cL_pass 4 = .ok (.invokevirtual 53, 3) := by decide +kernel
theorem dL_pass_7 : decode cL_pass 7 = .ok (.i2l, 1) := by decide +kernel
theorem dL_pass_8 : decode cL_pass 8 = .ok (.lastore, 1) := by decide +kernel
theorem dL_pass_9 : decode cL_pass 9 = .ok (.goto 6, 3) := by decide +kernel
theorem dL_pass_12 : decode cL_pass 12 = .ok (.astore_n 3, 1) := by decide +kernel
theorem dL_pass_13 : decode cL_pass 13 = .ok (.iconst 1, 1) := by decide +kernel
theorem dL_pass_14 : decode cL_pass 14 = .ok (.ireturn, 1) := by decide +kernel
theorem dL_pass_15 : decode cL_pass 15 = .ok (.iconst 0, 1) := by decide +kernel
theorem dL_pass_16 : decode cL_pass 16 = .ok (.ireturn, 1) := by decide +kernel
theorem dL_closeNight_0 : decode cL_closeNight 0 = .ok (.aload_n 1, 1) := by decide +kernel
theorem dL_closeNight_1 : decode cL_closeNight 1 = .ok (.iconst 0, 1) := by decide +kernel
theorem dL_closeNight_2 : decode cL_closeNight 2 = .ok (.aload_n 0, 1) := by decide +kernel
theorem dL_closeNight_3 : decode cL_closeNight 3 = .ok (.invokevirtual 56, 3) := by decide +kernel
theorem dL_closeNight_6 : decode cL_closeNight 6 = .ok (.f2d, 1) := by decide +kernel
theorem dL_closeNight_7 : decode cL_closeNight 7 = .ok (.dastore, 1) := by decide +kernel
theorem dL_closeNight_8 : decode cL_closeNight 8 = .ok (.goto 6, 3) := by decide +kernel
theorem dL_closeNight_11 : decode cL_closeNight 11 = .ok (.astore_n 2, 1) := by decide +kernel
theorem dL_closeNight_12 : decode cL_closeNight 12 = .ok (.iconst 1, 1) := by decide +kernel
theorem dL_closeNight_13 : decode cL_closeNight 13 = .ok (.ireturn, 1) := by decide +kernel
theorem dL_closeNight_14 : decode cL_closeNight 14 = .ok (.iconst 0, 1) := by decide +kernel
theorem dL_closeNight_15 : decode cL_closeNight 15 = .ok (.ireturn, 1) := by decide +kernel
theorem dL_capacity_0 : decode cL_capacity 0 = .ok (.aload_n 2, 1) := by decide +kernel
theorem dL_capacity_1 : decode cL_capacity 1 = .ok (.iconst 0, 1) := by decide +kernel
theorem dL_capacity_2 : decode cL_capacity 2 = .ok (.aload_n 0, 1) := by decide +kernel
theorem dL_capacity_3 : decode cL_capacity 3 = .ok (.iload_n 1, 1) := by decide +kernel
theorem dL_capacity_4 : decode cL_capacity 4 = .ok (.invokevirtual 60, 3) := by decide +kernel
theorem dL_capacity_7 : decode cL_capacity 7 = .ok (.f2d, 1) := by decide +kernel
theorem dL_capacity_8 : decode cL_capacity 8 = .ok (.dastore, 1) := by decide +kernel
theorem dL_capacity_9 : decode cL_capacity 9 = .ok (.goto 6, 3) := by decide +kernel
theorem dL_capacity_12 : decode cL_capacity 12 = .ok (.astore_n 3, 1) := by decide +kernel
theorem dL_capacity_13 : decode cL_capacity 13 = .ok (.iconst 1, 1) := by decide +kernel
theorem dL_capacity_14 : decode cL_capacity 14 = .ok (.ireturn, 1) := by decide +kernel
theorem dL_capacity_15 : decode cL_capacity 15 = .ok (.iconst 0, 1) := by decide +kernel
theorem dL_capacity_16 : decode cL_capacity 16 = .ok (.ireturn, 1) := by decide +kernel
theorem dL_volume_0 : decode cL_volume 0 = .ok (.aload_n 2, 1) := by decide +kernel
theorem dL_volume_1 : decode cL_volume 1 = .ok (.iconst 0, 1) := by decide +kernel
theorem dL_volume_2 : decode cL_volume 2 = .ok (.aload_n 0, 1) := by decide +kernel
theorem dL_volume_3 : decode cL_volume 3 = .ok (.iload_n 1, 1) := by decide +kernel
theorem dL_volume_4 : decode cL_volume 4 = .ok (.invokevirtual 63, 3) := by decide +kernel
theorem dL_volume_7 : decode cL_volume 7 = .ok (.f2d, 1) := by decide +kernel
theorem dL_volume_8 : decode cL_volume 8 = .ok (.dastore, 1) := by decide +kernel
theorem dL_volume_9 : decode cL_volume 9 = .ok (.goto 6, 3) := by decide +kernel
theorem dL_volume_12 : decode cL_volume 12 = .ok (.astore_n 3, 1) := by decide +kernel
theorem dL_volume_13 : decode cL_volume 13 = .ok (.iconst 1, 1) := by decide +kernel
theorem dL_volume_14 : decode cL_volume 14 = .ok (.ireturn, 1) := by decide +kernel
theorem dL_volume_15 : decode cL_volume 15 = .ok (.iconst 0, 1) := by decide +kernel
theorem dL_volume_16 : decode cL_volume 16 = .ok (.ireturn, 1) := by decide +kernel
theorem dL_temperature_0 : decode cL_temperature 0 = .ok (.aload_n 2, 1) := by decide +kernel
theorem dL_temperature_1 : decode cL_temperature 1 = .ok (.iconst 0, 1) := by decide +kernel
theorem dL_temperature_2 : decode cL_temperature 2 = .ok (.aload_n 0, 1) := by decide +kernel
theorem dL_temperature_3 : decode cL_temperature 3 = .ok (.iload_n 1, 1) := by decide +kernel
theorem dL_temperature_4 : decode cL_temperature 4 = .ok (.invokevirtual 66, 3) := by decide +kernel
theorem dL_temperature_7 : decode cL_temperature 7 = .ok (.f2d, 1) := by decide +kernel
theorem dL_temperature_8 : decode cL_temperature 8 = .ok (.dastore, 1) := by decide +kernel
theorem dL_temperature_9 : decode cL_temperature 9 = .ok (.goto 6, 3) := by decide +kernel
theorem dL_temperature_12 : decode cL_temperature 12 = .ok (.astore_n 3, 1) := by decide +kernel
theorem dL_temperature_13 : decode cL_temperature 13 = .ok (.iconst 1, 1) := by decide +kernel
theorem dL_temperature_14 : decode cL_temperature 14 = .ok (.ireturn, 1) := by decide +kernel
theorem dL_temperature_15 : decode cL_temperature 15 = .ok (.iconst 0, 1) := by decide +kernel
theorem dL_temperature_16 : decode cL_temperature 16 = .ok (.ireturn, 1) := by decide +kernel
theorem dL_temperatureBits_0 : decode cL_temperatureBits 0 = .ok (.aload_n 2, 1) := by decide +kernel
theorem dL_temperatureBits_1 : decode cL_temperatureBits 1 = .ok (.iconst 0, 1) := by decide +kernel
theorem dL_temperatureBits_2 : decode cL_temperatureBits 2 = .ok (.aload_n 0, 1) := by decide +kernel
theorem dL_temperatureBits_3 : decode cL_temperatureBits 3 = .ok (.iload_n 1, 1) := by decide +kernel
theorem dL_temperatureBits_4 : decode cL_temperatureBits 4 = .ok (.invokevirtual 69, 3) := by decide +kernel
theorem dL_temperatureBits_7 : decode cL_temperatureBits 7 = .ok (.i2l, 1) := by decide +kernel
theorem dL_temperatureBits_8 : decode cL_temperatureBits 8 = .ok (.lastore, 1) := by decide +kernel
theorem dL_temperatureBits_9 : decode cL_temperatureBits 9 = .ok (.goto 6, 3) := by decide +kernel
theorem dL_temperatureBits_12 : decode cL_temperatureBits 12 = .ok (.astore_n 3, 1) := by decide +kernel
theorem dL_temperatureBits_13 : decode cL_temperatureBits 13 = .ok (.iconst 1, 1) := by decide +kernel
theorem dL_temperatureBits_14 : decode cL_temperatureBits 14 = .ok (.ireturn, 1) := by decide +kernel
theorem dL_temperatureBits_15 : decode cL_temperatureBits 15 = .ok (.iconst 0, 1) := by decide +kernel
theorem dL_temperatureBits_16 : decode cL_temperatureBits 16 = .ok (.ireturn, 1) := by decide +kernel
theorem dL_burner_0 : decode cL_burner 0 = .ok (.aload_n 2, 1) := by decide +kernel
theorem dL_burner_1 : decode cL_burner 1 = .ok (.iconst 0, 1) := by decide +kernel
theorem dL_burner_2 : decode cL_burner 2 = .ok (.aload_n 0, 1) := by decide +kernel
theorem dL_burner_3 : decode cL_burner 3 = .ok (.iload_n 1, 1) := by decide +kernel
theorem dL_burner_4 : decode cL_burner 4 = .ok (.invokevirtual 72, 3) := by decide +kernel
theorem dL_burner_7 : decode cL_burner 7 = .ok (.i2l, 1) := by decide +kernel
theorem dL_burner_8 : decode cL_burner 8 = .ok (.lastore, 1) := by decide +kernel
theorem dL_burner_9 : decode cL_burner 9 = .ok (.goto 6, 3) := by decide +kernel
theorem dL_burner_12 : decode cL_burner 12 = .ok (.astore_n 3, 1) := by decide +kernel
theorem dL_burner_13 : decode cL_burner 13 = .ok (.iconst 1, 1) := by decide +kernel
theorem dL_burner_14 : decode cL_burner 14 = .ok (.ireturn, 1) := by decide +kernel
theorem dL_burner_15 : decode cL_burner 15 = .ok (.iconst 0, 1) := by decide +kernel
theorem dL_burner_16 : decode cL_burner 16 = .ok (.ireturn, 1) := by decide +kernel
theorem dL_isBoiling_0 : decode cL_isBoiling 0 = .ok (.aload_n 2, 1) := by decide +kernel
theorem dL_isBoiling_1 : decode cL_isBoiling 1 = .ok (.iconst 0, 1) := by decide +kernel
theorem dL_isBoiling_2 : decode cL_isBoiling 2 = .ok (.aload_n 0, 1) := by decide +kernel
theorem dL_isBoiling_3 : decode cL_isBoiling 3 = .ok (.iload_n 1, 1) := by decide +kernel
theorem dL_isBoiling_4 : decode cL_isBoiling 4 = .ok (.invokevirtual 75, 3) := by decide +kernel
theorem dL_isBoiling_7 : decode cL_isBoiling 7 = .ok (.ifCond .eq 7, 3) := by decide +kernel
theorem dL_isBoiling_10 : decode cL_isBoiling 10 = .ok (.lconst 1, 1) := by decide +kernel
theorem dL_isBoiling_11 : decode cL_isBoiling 11 = .ok (.goto 4, 3) := by decide +kernel
theorem dL_isBoiling_14 : decode cL_isBoiling 14 = .ok (.lconst 0, 1) := by decide +kernel
theorem dL_isBoiling_15 : decode cL_isBoiling 15 = .ok (.lastore, 1) := by decide +kernel
theorem dL_isBoiling_16 : decode cL_isBoiling 16 = .ok (.goto 6, 3) := by decide +kernel
theorem dL_isBoiling_19 : decode cL_isBoiling 19 = .ok (.astore_n 3, 1) := by decide +kernel
theorem dL_isBoiling_20 : decode cL_isBoiling 20 = .ok (.iconst 1, 1) := by decide +kernel
theorem dL_isBoiling_21 : decode cL_isBoiling 21 = .ok (.ireturn, 1) := by decide +kernel
theorem dL_isBoiling_22 : decode cL_isBoiling 22 = .ok (.iconst 0, 1) := by decide +kernel
theorem dL_isBoiling_23 : decode cL_isBoiling 23 = .ok (.ireturn, 1) := by decide +kernel
theorem dL_minutesUntilBoiling_0 : decode cL_minutesUntilBoiling 0 = .ok (.aload_n 2, 1) := by decide +kernel
theorem dL_minutesUntilBoiling_1 : decode cL_minutesUntilBoiling 1 = .ok (.iconst 0, 1) := by decide +kernel
theorem dL_minutesUntilBoiling_2 : decode cL_minutesUntilBoiling 2 = .ok (.aload_n 0, 1) := by decide +kernel
theorem dL_minutesUntilBoiling_3 : decode cL_minutesUntilBoiling 3 = .ok (.iload_n 1, 1) := by decide +kernel
theorem dL_minutesUntilBoiling_4 : decode cL_minutesUntilBoiling 4 = .ok (.invokevirtual 79, 3) := by decide +kernel
theorem dL_minutesUntilBoiling_7 : decode cL_minutesUntilBoiling 7 = .ok (.i2l, 1) := by decide +kernel
theorem dL_minutesUntilBoiling_8 : decode cL_minutesUntilBoiling 8 = .ok (.lastore, 1) := by decide +kernel
theorem dL_minutesUntilBoiling_9 : decode cL_minutesUntilBoiling 9 = .ok (.goto 9, 3) := by decide +kernel
theorem dL_minutesUntilBoiling_12 : decode cL_minutesUntilBoiling 12 = .ok (.astore_n 3, 1) := by decide +kernel
theorem dL_minutesUntilBoiling_13 : decode cL_minutesUntilBoiling 13 = .ok (.iconst 1, 1) := by decide +kernel
theorem dL_minutesUntilBoiling_14 : decode cL_minutesUntilBoiling 14 = .ok (.ireturn, 1) := by decide +kernel
theorem dL_minutesUntilBoiling_15 : decode cL_minutesUntilBoiling 15 = .ok (.astore_n 3, 1) := by decide +kernel
theorem dL_minutesUntilBoiling_16 : decode cL_minutesUntilBoiling 16 = .ok (.iconst 2, 1) := by decide +kernel
theorem dL_minutesUntilBoiling_17 : decode cL_minutesUntilBoiling 17 = .ok (.ireturn, 1) := by decide +kernel
theorem dL_minutesUntilBoiling_18 : decode cL_minutesUntilBoiling 18 = .ok (.iconst 0, 1) := by decide +kernel
theorem dL_minutesUntilBoiling_19 : decode cL_minutesUntilBoiling 19 = .ok (.ireturn, 1) := by decide +kernel
theorem dL_minutesUntilBoilingByMinutes_0 : decode cL_minutesUntilBoilingByMinutes 0 = .ok (.aload_n 2, 1) := by decide +kernel
theorem dL_minutesUntilBoilingByMinutes_1 : decode cL_minutesUntilBoilingByMinutes 1 = .ok (.iconst 0, 1) := by decide +kernel
theorem dL_minutesUntilBoilingByMinutes_2 : decode cL_minutesUntilBoilingByMinutes 2 = .ok (.aload_n 0, 1) := by decide +kernel
theorem dL_minutesUntilBoilingByMinutes_3 : decode cL_minutesUntilBoilingByMinutes 3 = .ok (.iload_n 1, 1) := by decide +kernel
theorem dL_minutesUntilBoilingByMinutes_4 : decode cL_minutesUntilBoilingByMinutes 4 = .ok (.invokevirtual 82, 3) := by decide +kernel
theorem dL_minutesUntilBoilingByMinutes_7 : decode cL_minutesUntilBoilingByMinutes 7 = .ok (.i2l, 1) := by decide +kernel
theorem dL_minutesUntilBoilingByMinutes_8 : decode cL_minutesUntilBoilingByMinutes 8 = .ok (.lastore, 1) := by decide +kernel
theorem dL_minutesUntilBoilingByMinutes_9 : decode cL_minutesUntilBoilingByMinutes 9 = .ok (.goto 9, 3) := by decide +kernel
theorem dL_minutesUntilBoilingByMinutes_12 : decode cL_minutesUntilBoilingByMinutes 12 = .ok (.astore_n 3, 1) := by decide +kernel
theorem dL_minutesUntilBoilingByMinutes_13 : decode cL_minutesUntilBoilingByMinutes 13 = .ok (.iconst 1, 1) := by decide +kernel
theorem dL_minutesUntilBoilingByMinutes_14 : decode cL_minutesUntilBoilingByMinutes 14 = .ok (.ireturn, 1) := by decide +kernel
theorem dL_minutesUntilBoilingByMinutes_15 : decode cL_minutesUntilBoilingByMinutes 15 = .ok (.astore_n 3, 1) := by decide +kernel
theorem dL_minutesUntilBoilingByMinutes_16 : decode cL_minutesUntilBoilingByMinutes 16 = .ok (.iconst 2, 1) := by decide +kernel
theorem dL_minutesUntilBoilingByMinutes_17 : decode cL_minutesUntilBoilingByMinutes 17 = .ok (.ireturn, 1) := by decide +kernel
theorem dL_minutesUntilBoilingByMinutes_18 : decode cL_minutesUntilBoilingByMinutes 18 = .ok (.iconst 0, 1) := by decide +kernel
theorem dL_minutesUntilBoilingByMinutes_19 : decode cL_minutesUntilBoilingByMinutes 19 = .ok (.ireturn, 1) := by decide +kernel
theorem dL_kettleByTemperature_0 : decode cL_kettleByTemperature 0 = .ok (.aload_n 2, 1) := by decide +kernel
theorem dL_kettleByTemperature_1 : decode cL_kettleByTemperature 1 = .ok (.iconst 0, 1) := by decide +kernel
theorem dL_kettleByTemperature_2 : decode cL_kettleByTemperature 2 = .ok (.aload_n 0, 1) := by decide +kernel
theorem dL_kettleByTemperature_3 : decode cL_kettleByTemperature 3 = .ok (.iload_n 1, 1) := by decide +kernel
theorem dL_kettleByTemperature_4 : decode cL_kettleByTemperature 4 = .ok (.invokevirtual 85, 3) := by decide +kernel
theorem dL_kettleByTemperature_7 : decode cL_kettleByTemperature 7 = .ok (.i2l, 1) := by decide +kernel
theorem dL_kettleByTemperature_8 : decode cL_kettleByTemperature 8 = .ok (.lastore, 1) := by decide +kernel
theorem dL_kettleByTemperature_9 : decode cL_kettleByTemperature 9 = .ok (.goto 6, 3) := by decide +kernel
theorem dL_kettleByTemperature_12 : decode cL_kettleByTemperature 12 = .ok (.astore_n 3, 1) := by decide +kernel
theorem dL_kettleByTemperature_13 : decode cL_kettleByTemperature 13 = .ok (.iconst 1, 1) := by decide +kernel
theorem dL_kettleByTemperature_14 : decode cL_kettleByTemperature 14 = .ok (.ireturn, 1) := by decide +kernel
theorem dL_kettleByTemperature_15 : decode cL_kettleByTemperature 15 = .ok (.iconst 0, 1) := by decide +kernel
theorem dL_kettleByTemperature_16 : decode cL_kettleByTemperature 16 = .ok (.ireturn, 1) := by decide +kernel
theorem dL_orderAt_0 : decode cL_orderAt 0 = .ok (.aload_n 2, 1) := by decide +kernel
theorem dL_orderAt_1 : decode cL_orderAt 1 = .ok (.iconst 0, 1) := by decide +kernel
theorem dL_orderAt_2 : decode cL_orderAt 2 = .ok (.aload_n 0, 1) := by decide +kernel
theorem dL_orderAt_3 : decode cL_orderAt 3 = .ok (.iload_n 1, 1) := by decide +kernel
theorem dL_orderAt_4 : decode cL_orderAt 4 = .ok (.invokevirtual 88, 3) := by decide +kernel
theorem dL_orderAt_7 : decode cL_orderAt 7 = .ok (.i2l, 1) := by decide +kernel
theorem dL_orderAt_8 : decode cL_orderAt 8 = .ok (.lastore, 1) := by decide +kernel
theorem dL_orderAt_9 : decode cL_orderAt 9 = .ok (.goto 6, 3) := by decide +kernel
theorem dL_orderAt_12 : decode cL_orderAt 12 = .ok (.astore_n 3, 1) := by decide +kernel
theorem dL_orderAt_13 : decode cL_orderAt 13 = .ok (.iconst 1, 1) := by decide +kernel
theorem dL_orderAt_14 : decode cL_orderAt 14 = .ok (.ireturn, 1) := by decide +kernel
theorem dL_orderAt_15 : decode cL_orderAt 15 = .ok (.iconst 0, 1) := by decide +kernel
theorem dL_orderAt_16 : decode cL_orderAt 16 = .ok (.ireturn, 1) := by decide +kernel
theorem dL_positionOf_0 : decode cL_positionOf 0 = .ok (.aload_n 2, 1) := by decide +kernel
theorem dL_positionOf_1 : decode cL_positionOf 1 = .ok (.iconst 0, 1) := by decide +kernel
theorem dL_positionOf_2 : decode cL_positionOf 2 = .ok (.aload_n 0, 1) := by decide +kernel
theorem dL_positionOf_3 : decode cL_positionOf 3 = .ok (.iload_n 1, 1) := by decide +kernel
theorem dL_positionOf_4 : decode cL_positionOf 4 = .ok (.invokevirtual 91, 3) := by decide +kernel
theorem dL_positionOf_7 : decode cL_positionOf 7 = .ok (.i2l, 1) := by decide +kernel
theorem dL_positionOf_8 : decode cL_positionOf 8 = .ok (.lastore, 1) := by decide +kernel
theorem dL_positionOf_9 : decode cL_positionOf 9 = .ok (.goto 6, 3) := by decide +kernel
theorem dL_positionOf_12 : decode cL_positionOf 12 = .ok (.astore_n 3, 1) := by decide +kernel
theorem dL_positionOf_13 : decode cL_positionOf 13 = .ok (.iconst 1, 1) := by decide +kernel
theorem dL_positionOf_14 : decode cL_positionOf 14 = .ok (.ireturn, 1) := by decide +kernel
theorem dL_positionOf_15 : decode cL_positionOf 15 = .ok (.iconst 0, 1) := by decide +kernel
theorem dL_positionOf_16 : decode cL_positionOf 16 = .ok (.ireturn, 1) := by decide +kernel
theorem dL_cupsOf_0 : decode cL_cupsOf 0 = .ok (.aload_n 2, 1) := by decide +kernel
theorem dL_cupsOf_1 : decode cL_cupsOf 1 = .ok (.iconst 0, 1) := by decide +kernel
theorem dL_cupsOf_2 : decode cL_cupsOf 2 = .ok (.aload_n 0, 1) := by decide +kernel
theorem dL_cupsOf_3 : decode cL_cupsOf 3 = .ok (.iload_n 1, 1) := by decide +kernel
theorem dL_cupsOf_4 : decode cL_cupsOf 4 = .ok (.invokevirtual 94, 3) := by decide +kernel
theorem dL_cupsOf_7 : decode cL_cupsOf 7 = .ok (.i2l, 1) := by decide +kernel
theorem dL_cupsOf_8 : decode cL_cupsOf 8 = .ok (.lastore, 1) := by decide +kernel
theorem dL_cupsOf_9 : decode cL_cupsOf 9 = .ok (.goto 6, 3) := by decide +kernel
theorem dL_cupsOf_12 : decode cL_cupsOf 12 = .ok (.astore_n 3, 1) := by decide +kernel
theorem dL_cupsOf_13 : decode cL_cupsOf 13 = .ok (.iconst 1, 1) := by decide +kernel
theorem dL_cupsOf_14 : decode cL_cupsOf 14 = .ok (.ireturn, 1) := by decide +kernel
theorem dL_cupsOf_15 : decode cL_cupsOf 15 = .ok (.iconst 0, 1) := by decide +kernel
theorem dL_cupsOf_16 : decode cL_cupsOf 16 = .ok (.ireturn, 1) := by decide +kernel
theorem dL_priceOf_0 : decode cL_priceOf 0 = .ok (.aload_n 2, 1) := by decide +kernel
theorem dL_priceOf_1 : decode cL_priceOf 1 = .ok (.iconst 0, 1) := by decide +kernel
theorem dL_priceOf_2 : decode cL_priceOf 2 = .ok (.aload_n 0, 1) := by decide +kernel
theorem dL_priceOf_3 : decode cL_priceOf 3 = .ok (.iload_n 1, 1) := by decide +kernel
theorem dL_priceOf_4 : decode cL_priceOf 4 = .ok (.invokevirtual 97, 3) := by decide +kernel
theorem dL_priceOf_7 : decode cL_priceOf 7 = .ok (.f2d, 1) := by decide +kernel
theorem dL_priceOf_8 : decode cL_priceOf 8 = .ok (.dastore, 1) := by decide +kernel
theorem dL_priceOf_9 : decode cL_priceOf 9 = .ok (.goto 6, 3) := by decide +kernel
theorem dL_priceOf_12 : decode cL_priceOf 12 = .ok (.astore_n 3, 1) := by decide +kernel
theorem dL_priceOf_13 : decode cL_priceOf 13 = .ok (.iconst 1, 1) := by decide +kernel
theorem dL_priceOf_14 : decode cL_priceOf 14 = .ok (.ireturn, 1) := by decide +kernel
theorem dL_priceOf_15 : decode cL_priceOf 15 = .ok (.iconst 0, 1) := by decide +kernel
theorem dL_priceOf_16 : decode cL_priceOf 16 = .ok (.ireturn, 1) := by decide +kernel
theorem dL_kettleFor_0 : decode cL_kettleFor 0 = .ok (.aload_n 2, 1) := by decide +kernel
theorem dL_kettleFor_1 : decode cL_kettleFor 1 = .ok (.iconst 0, 1) := by decide +kernel
theorem dL_kettleFor_2 : decode cL_kettleFor 2 = .ok (.aload_n 0, 1) := by decide +kernel
theorem dL_kettleFor_3 : decode cL_kettleFor 3 = .ok (.iload_n 1, 1) := by decide +kernel
theorem dL_kettleFor_4 : decode cL_kettleFor 4 = .ok (.invokevirtual 100, 3) := by decide +kernel
theorem dL_kettleFor_7 : decode cL_kettleFor 7 = .ok (.i2l, 1) := by decide +kernel
theorem dL_kettleFor_8 : decode cL_kettleFor 8 = .ok (.lastore, 1) := by decide +kernel
theorem dL_kettleFor_9 : decode cL_kettleFor 9 = .ok (.goto 6, 3) := by decide +kernel
theorem dL_kettleFor_12 : decode cL_kettleFor 12 = .ok (.astore_n 3, 1) := by decide +kernel
theorem dL_kettleFor_13 : decode cL_kettleFor 13 = .ok (.iconst 1, 1) := by decide +kernel
theorem dL_kettleFor_14 : decode cL_kettleFor 14 = .ok (.ireturn, 1) := by decide +kernel
theorem dL_kettleFor_15 : decode cL_kettleFor 15 = .ok (.iconst 0, 1) := by decide +kernel
theorem dL_kettleFor_16 : decode cL_kettleFor 16 = .ok (.ireturn, 1) := by decide +kernel
theorem dL_minutesUntilSuitable_0 : decode cL_minutesUntilSuitable 0 = .ok (.aload_n 2, 1) := by decide +kernel
theorem dL_minutesUntilSuitable_1 : decode cL_minutesUntilSuitable 1 = .ok (.iconst 0, 1) := by decide +kernel
theorem dL_minutesUntilSuitable_2 : decode cL_minutesUntilSuitable 2 = .ok (.aload_n 0, 1) := by decide +kernel
theorem dL_minutesUntilSuitable_3 : decode cL_minutesUntilSuitable 3 = .ok (.iload_n 1, 1) := by decide +kernel
theorem dL_minutesUntilSuitable_4 : decode cL_minutesUntilSuitable 4 = .ok (.invokevirtual 103, 3) := by decide +kernel
theorem dL_minutesUntilSuitable_7 : decode cL_minutesUntilSuitable 7 = .ok (.i2l, 1) := by decide +kernel
theorem dL_minutesUntilSuitable_8 : decode cL_minutesUntilSuitable 8 = .ok (.lastore, 1) := by decide +kernel
theorem dL_minutesUntilSuitable_9 : decode cL_minutesUntilSuitable 9 = .ok (.goto 6, 3) := by decide +kernel
theorem dL_minutesUntilSuitable_12 : decode cL_minutesUntilSuitable 12 = .ok (.astore_n 3, 1) := by decide +kernel
theorem dL_minutesUntilSuitable_13 : decode cL_minutesUntilSuitable 13 = .ok (.iconst 1, 1) := by decide +kernel
theorem dL_minutesUntilSuitable_14 : decode cL_minutesUntilSuitable 14 = .ok (.ireturn, 1) := by decide +kernel
theorem dL_minutesUntilSuitable_15 : decode cL_minutesUntilSuitable 15 = .ok (.iconst 0, 1) := by decide +kernel
theorem dL_minutesUntilSuitable_16 : decode cL_minutesUntilSuitable 16 = .ok (.ireturn, 1) := by decide +kernel
theorem dL_nightIncome_0 : decode cL_nightIncome 0 = .ok (.aload_n 2, 1) := by decide +kernel
theorem dL_nightIncome_1 : decode cL_nightIncome 1 = .ok (.iconst 0, 1) := by decide +kernel
theorem dL_nightIncome_2 : decode cL_nightIncome 2 = .ok (.aload_n 0, 1) := by decide +kernel
theorem dL_nightIncome_3 : decode cL_nightIncome 3 = .ok (.iload_n 1, 1) := by decide +kernel
theorem dL_nightIncome_4 : decode cL_nightIncome 4 = .ok (.invokevirtual 106, 3) := by decide +kernel
theorem dL_nightIncome_7 : decode cL_nightIncome 7 = .ok (.f2d, 1) := by decide +kernel
theorem dL_nightIncome_8 : decode cL_nightIncome 8 = .ok (.dastore, 1) := by decide +kernel
theorem dL_nightIncome_9 : decode cL_nightIncome 9 = .ok (.goto 6, 3) := by decide +kernel
theorem dL_nightIncome_12 : decode cL_nightIncome 12 = .ok (.astore_n 3, 1) := by decide +kernel
theorem dL_nightIncome_13 : decode cL_nightIncome 13 = .ok (.iconst 1, 1) := by decide +kernel
theorem dL_nightIncome_14 : decode cL_nightIncome 14 = .ok (.ireturn, 1) := by decide +kernel
theorem dL_nightIncome_15 : decode cL_nightIncome 15 = .ok (.iconst 0, 1) := by decide +kernel
theorem dL_nightIncome_16 : decode cL_nightIncome 16 = .ok (.ireturn, 1) := by decide +kernel
theorem dL_nightByIncome_0 : decode cL_nightByIncome 0 = .ok (.aload_n 2, 1) := by decide +kernel
theorem dL_nightByIncome_1 : decode cL_nightByIncome 1 = .ok (.iconst 0, 1) := by decide +kernel
theorem dL_nightByIncome_2 : decode cL_nightByIncome 2 = .ok (.aload_n 0, 1) := by decide +kernel
theorem dL_nightByIncome_3 : decode cL_nightByIncome 3 = .ok (.iload_n 1, 1) := by decide +kernel
theorem dL_nightByIncome_4 : decode cL_nightByIncome 4 = .ok (.invokevirtual 109, 3) := by decide +kernel
theorem dL_nightByIncome_7 : decode cL_nightByIncome 7 = .ok (.i2l, 1) := by decide +kernel
theorem dL_nightByIncome_8 : decode cL_nightByIncome 8 = .ok (.lastore, 1) := by decide +kernel
theorem dL_nightByIncome_9 : decode cL_nightByIncome 9 = .ok (.goto 6, 3) := by decide +kernel
theorem dL_nightByIncome_12 : decode cL_nightByIncome 12 = .ok (.astore_n 3, 1) := by decide +kernel
theorem dL_nightByIncome_13 : decode cL_nightByIncome 13 = .ok (.iconst 1, 1) := by decide +kernel
theorem dL_nightByIncome_14 : decode cL_nightByIncome 14 = .ok (.ireturn, 1) := by decide +kernel
theorem dL_nightByIncome_15 : decode cL_nightByIncome 15 = .ok (.iconst 0, 1) := by decide +kernel
theorem dL_nightByIncome_16 : decode cL_nightByIncome 16 = .ok (.ireturn, 1) := by decide +kernel
theorem dL_greatestIncome_0 : decode cL_greatestIncome 0 = .ok (.aload_n 2, 1) := by decide +kernel
theorem dL_greatestIncome_1 : decode cL_greatestIncome 1 = .ok (.iconst 0, 1) := by decide +kernel
theorem dL_greatestIncome_2 : decode cL_greatestIncome 2 = .ok (.aload_n 0, 1) := by decide +kernel
theorem dL_greatestIncome_3 : decode cL_greatestIncome 3 = .ok (.iload_n 1, 1) := by decide +kernel
theorem dL_greatestIncome_4 : decode cL_greatestIncome 4 = .ok (.invokevirtual 112, 3) := by decide +kernel
theorem dL_greatestIncome_7 : decode cL_greatestIncome 7 = .ok (.f2d, 1) := by decide +kernel
theorem dL_greatestIncome_8 : decode cL_greatestIncome 8 = .ok (.dastore, 1) := by decide +kernel
theorem dL_greatestIncome_9 : decode cL_greatestIncome 9 = .ok (.goto 9, 3) := by decide +kernel
theorem dL_greatestIncome_12 : decode cL_greatestIncome 12 = .ok (.astore_n 3, 1) := by decide +kernel
theorem dL_greatestIncome_13 : decode cL_greatestIncome 13 = .ok (.iconst 1, 1) := by decide +kernel
theorem dL_greatestIncome_14 : decode cL_greatestIncome 14 = .ok (.ireturn, 1) := by decide +kernel
theorem dL_greatestIncome_15 : decode cL_greatestIncome 15 = .ok (.astore_n 3, 1) := by decide +kernel
theorem dL_greatestIncome_16 : decode cL_greatestIncome 16 = .ok (.iconst 2, 1) := by decide +kernel
theorem dL_greatestIncome_17 : decode cL_greatestIncome 17 = .ok (.ireturn, 1) := by decide +kernel
theorem dL_greatestIncome_18 : decode cL_greatestIncome 18 = .ok (.iconst 0, 1) := by decide +kernel
theorem dL_greatestIncome_19 : decode cL_greatestIncome 19 = .ok (.ireturn, 1) := by decide +kernel
theorem dL_greatestIncomeBySums_0 : decode cL_greatestIncomeBySums 0 = .ok (.aload_n 2, 1) := by decide +kernel
theorem dL_greatestIncomeBySums_1 : decode cL_greatestIncomeBySums 1 = .ok (.iconst 0, 1) := by decide +kernel
theorem dL_greatestIncomeBySums_2 : decode cL_greatestIncomeBySums 2 = .ok (.aload_n 0, 1) := by decide +kernel
theorem dL_greatestIncomeBySums_3 : decode cL_greatestIncomeBySums 3 = .ok (.iload_n 1, 1) := by decide +kernel
theorem dL_greatestIncomeBySums_4 : decode cL_greatestIncomeBySums 4 = .ok (.invokevirtual 115, 3) := by decide +kernel
theorem dL_greatestIncomeBySums_7 : decode cL_greatestIncomeBySums 7 = .ok (.f2d, 1) := by decide +kernel
theorem dL_greatestIncomeBySums_8 : decode cL_greatestIncomeBySums 8 = .ok (.dastore, 1) := by decide +kernel
theorem dL_greatestIncomeBySums_9 : decode cL_greatestIncomeBySums 9 = .ok (.goto 9, 3) := by decide +kernel
theorem dL_greatestIncomeBySums_12 : decode cL_greatestIncomeBySums 12 = .ok (.astore_n 3, 1) := by decide +kernel
theorem dL_greatestIncomeBySums_13 : decode cL_greatestIncomeBySums 13 = .ok (.iconst 1, 1) := by decide +kernel
theorem dL_greatestIncomeBySums_14 : decode cL_greatestIncomeBySums 14 = .ok (.ireturn, 1) := by decide +kernel
theorem dL_greatestIncomeBySums_15 : decode cL_greatestIncomeBySums 15 = .ok (.astore_n 3, 1) := by decide +kernel
theorem dL_greatestIncomeBySums_16 : decode cL_greatestIncomeBySums 16 = .ok (.iconst 2, 1) := by decide +kernel
theorem dL_greatestIncomeBySums_17 : decode cL_greatestIncomeBySums 17 = .ok (.ireturn, 1) := by decide +kernel
theorem dL_greatestIncomeBySums_18 : decode cL_greatestIncomeBySums 18 = .ok (.iconst 0, 1) := by decide +kernel
theorem dL_greatestIncomeBySums_19 : decode cL_greatestIncomeBySums 19 = .ok (.ireturn, 1) := by decide +kernel
theorem dL_meanTemperature_0 : decode cL_meanTemperature 0 = .ok (.aload_n 1, 1) := by decide +kernel
theorem dL_meanTemperature_1 : decode cL_meanTemperature 1 = .ok (.iconst 0, 1) := by decide +kernel
theorem dL_meanTemperature_2 : decode cL_meanTemperature 2 = .ok (.aload_n 0, 1) := by decide +kernel
theorem dL_meanTemperature_3 : decode cL_meanTemperature 3 = .ok (.invokevirtual 118, 3) := by decide +kernel
theorem dL_meanTemperature_6 : decode cL_meanTemperature 6 = .ok (.dastore, 1) := by decide +kernel
theorem dL_meanTemperature_7 : decode cL_meanTemperature 7 = .ok (.goto 6, 3) := by decide +kernel
theorem dL_meanTemperature_10 : decode cL_meanTemperature 10 = .ok (.astore_n 2, 1) := by decide +kernel
theorem dL_meanTemperature_11 : decode cL_meanTemperature 11 = .ok (.iconst 1, 1) := by decide +kernel
theorem dL_meanTemperature_12 : decode cL_meanTemperature 12 = .ok (.ireturn, 1) := by decide +kernel
theorem dL_meanTemperature_13 : decode cL_meanTemperature 13 = .ok (.iconst 0, 1) := by decide +kernel
theorem dL_meanTemperature_14 : decode cL_meanTemperature 14 = .ok (.ireturn, 1) := by decide +kernel
theorem dL_lostShare_0 : decode cL_lostShare 0 = .ok (.aload_n 1, 1) := by decide +kernel
theorem dL_lostShare_1 : decode cL_lostShare 1 = .ok (.iconst 0, 1) := by decide +kernel
theorem dL_lostShare_2 : decode cL_lostShare 2 = .ok (.aload_n 0, 1) := by decide +kernel
theorem dL_lostShare_3 : decode cL_lostShare 3 = .ok (.invokevirtual 124, 3) := by decide +kernel
theorem dL_lostShare_6 : decode cL_lostShare 6 = .ok (.f2d, 1) := by decide +kernel
theorem dL_lostShare_7 : decode cL_lostShare 7 = .ok (.dastore, 1) := by decide +kernel
theorem dL_lostShare_8 : decode cL_lostShare 8 = .ok (.goto 6, 3) := by decide +kernel
theorem dL_lostShare_11 : decode cL_lostShare 11 = .ok (.astore_n 2, 1) := by decide +kernel
theorem dL_lostShare_12 : decode cL_lostShare 12 = .ok (.iconst 1, 1) := by decide +kernel
theorem dL_lostShare_13 : decode cL_lostShare 13 = .ok (.ireturn, 1) := by decide +kernel
theorem dL_lostShare_14 : decode cL_lostShare 14 = .ok (.iconst 0, 1) := by decide +kernel
theorem dL_lostShare_15 : decode cL_lostShare 15 = .ok (.ireturn, 1) := by decide +kernel
theorem dL_formatKettle_0 : decode cL_formatKettle 0 = .ok (.aload_n 2, 1) := by decide +kernel
theorem dL_formatKettle_1 : decode cL_formatKettle 1 = .ok (.iconst 0, 1) := by decide +kernel
theorem dL_formatKettle_2 : decode cL_formatKettle 2 = .ok (.aload_n 0, 1) := by decide +kernel
theorem dL_formatKettle_3 : decode cL_formatKettle 3 = .ok (.iload_n 1, 1) := by decide +kernel
theorem dL_formatKettle_4 : decode cL_formatKettle 4 = .ok (.invokevirtual 127, 3) := by decide +kernel
theorem dL_formatKettle_7 : decode cL_formatKettle 7 = .ok (.i2l, 1) := by decide +kernel
theorem dL_formatKettle_8 : decode cL_formatKettle 8 = .ok (.lastore, 1) := by decide +kernel
theorem dL_formatKettle_9 : decode cL_formatKettle 9 = .ok (.goto 6, 3) := by decide +kernel
theorem dL_formatKettle_12 : decode cL_formatKettle 12 = .ok (.astore_n 3, 1) := by decide +kernel
theorem dL_formatKettle_13 : decode cL_formatKettle 13 = .ok (.iconst 1, 1) := by decide +kernel
theorem dL_formatKettle_14 : decode cL_formatKettle 14 = .ok (.ireturn, 1) := by decide +kernel
theorem dL_formatKettle_15 : decode cL_formatKettle 15 = .ok (.iconst 0, 1) := by decide +kernel
theorem dL_formatKettle_16 : decode cL_formatKettle 16 = .ok (.ireturn, 1) := by decide +kernel
theorem dL_formatOrder_0 : decode cL_formatOrder 0 = .ok (.aload_n 2, 1) := by decide +kernel
theorem dL_formatOrder_1 : decode cL_formatOrder 1 = .ok (.iconst 0, 1) := by decide +kernel
theorem dL_formatOrder_2 : decode cL_formatOrder 2 = .ok (.aload_n 0, 1) := by decide +kernel
theorem dL_formatOrder_3 : decode cL_formatOrder 3 = .ok (.iload_n 1, 1) := by decide +kernel
theorem dL_formatOrder_4 : decode cL_formatOrder 4 = .ok (.invokevirtual 130, 3) := by decide +kernel
theorem dL_formatOrder_7 : decode cL_formatOrder 7 = .ok (.i2l, 1) := by decide +kernel
theorem dL_formatOrder_8 : decode cL_formatOrder 8 = .ok (.lastore, 1) := by decide +kernel
theorem dL_formatOrder_9 : decode cL_formatOrder 9 = .ok (.goto 6, 3) := by decide +kernel
theorem dL_formatOrder_12 : decode cL_formatOrder 12 = .ok (.astore_n 3, 1) := by decide +kernel
theorem dL_formatOrder_13 : decode cL_formatOrder 13 = .ok (.iconst 1, 1) := by decide +kernel
theorem dL_formatOrder_14 : decode cL_formatOrder 14 = .ok (.ireturn, 1) := by decide +kernel
theorem dL_formatOrder_15 : decode cL_formatOrder 15 = .ok (.iconst 0, 1) := by decide +kernel
theorem dL_formatOrder_16 : decode cL_formatOrder 16 = .ok (.ireturn, 1) := by decide +kernel
theorem dL_lineChar_0 : decode cL_lineChar 0 = .ok (.aload_n 2, 1) := by decide +kernel
theorem dL_lineChar_1 : decode cL_lineChar 1 = .ok (.iconst 0, 1) := by decide +kernel
theorem dL_lineChar_2 : decode cL_lineChar 2 = .ok (.aload_n 0, 1) := by decide +kernel
theorem dL_lineChar_3 : decode cL_lineChar 3 = .ok (.iload_n 1, 1) := by decide +kernel
theorem dL_lineChar_4 : decode cL_lineChar 4 = .ok (.invokevirtual 133, 3) := by decide +kernel
theorem dL_lineChar_7 : decode cL_lineChar 7 = .ok (.i2l, 1) := by decide +kernel
theorem dL_lineChar_8 : decode cL_lineChar 8 = .ok (.lastore, 1) := by decide +kernel
theorem dL_lineChar_9 : decode cL_lineChar 9 = .ok (.goto 6, 3) := by decide +kernel
theorem dL_lineChar_12 : decode cL_lineChar 12 = .ok (.astore_n 3, 1) := by decide +kernel
theorem dL_lineChar_13 : decode cL_lineChar 13 = .ok (.iconst 1, 1) := by decide +kernel
theorem dL_lineChar_14 : decode cL_lineChar 14 = .ok (.ireturn, 1) := by decide +kernel
theorem dL_lineChar_15 : decode cL_lineChar 15 = .ok (.iconst 0, 1) := by decide +kernel
theorem dL_lineChar_16 : decode cL_lineChar 16 = .ok (.ireturn, 1) := by decide +kernel
theorem dL_append_0 : decode cL_append 0 = .ok (.aload_n 2, 1) := by decide +kernel
theorem dL_append_1 : decode cL_append 1 = .ok (.iconst 0, 1) := by decide +kernel
theorem dL_append_2 : decode cL_append 2 = .ok (.aload_n 0, 1) := by decide +kernel
theorem dL_append_3 : decode cL_append 3 = .ok (.iload_n 1, 1) := by decide +kernel
theorem dL_append_4 : decode cL_append 4 = .ok (.invokevirtual 137, 3) := by decide +kernel
theorem dL_append_7 : decode cL_append 7 = .ok (.i2l, 1) := by decide +kernel
theorem dL_append_8 : decode cL_append 8 = .ok (.lastore, 1) := by decide +kernel
theorem dL_append_9 : decode cL_append 9 = .ok (.goto 9, 3) := by decide +kernel
theorem dL_append_12 : decode cL_append 12 = .ok (.astore_n 3, 1) := by decide +kernel
theorem dL_append_13 : decode cL_append 13 = .ok (.iconst 1, 1) := by decide +kernel
theorem dL_append_14 : decode cL_append 14 = .ok (.ireturn, 1) := by decide +kernel
theorem dL_append_15 : decode cL_append 15 = .ok (.astore_n 3, 1) := by decide +kernel
theorem dL_append_16 : decode cL_append 16 = .ok (.iconst 2, 1) := by decide +kernel
theorem dL_append_17 : decode cL_append 17 = .ok (.ireturn, 1) := by decide +kernel
theorem dL_append_18 : decode cL_append 18 = .ok (.iconst 0, 1) := by decide +kernel
theorem dL_append_19 : decode cL_append 19 = .ok (.ireturn, 1) := by decide +kernel
theorem dL_run_0 : decode cL_run 0 = .ok (.aload_n 1, 1) := by decide +kernel
theorem dL_run_1 : decode cL_run 1 = .ok (.iconst 0, 1) := by decide +kernel
theorem dL_run_2 : decode cL_run 2 = .ok (.aload_n 0, 1) := by decide +kernel
theorem dL_run_3 : decode cL_run 3 = .ok (.invokevirtual 141, 3) := by decide +kernel
theorem dL_run_6 : decode cL_run 6 = .ok (.i2l, 1) := by decide +kernel
theorem dL_run_7 : decode cL_run 7 = .ok (.lastore, 1) := by decide +kernel
theorem dL_run_8 : decode cL_run 8 = .ok (.goto 9, 3) := by decide +kernel
theorem dL_run_11 : decode cL_run 11 = .ok (.astore_n 2, 1) := by decide +kernel
theorem dL_run_12 : decode cL_run 12 = .ok (.iconst 1, 1) := by decide +kernel
theorem dL_run_13 : decode cL_run 13 = .ok (.ireturn, 1) := by decide +kernel
theorem dL_run_14 : decode cL_run 14 = .ok (.astore_n 2, 1) := by decide +kernel
theorem dL_run_15 : decode cL_run 15 = .ok (.iconst 2, 1) := by decide +kernel
theorem dL_run_16 : decode cL_run 16 = .ok (.ireturn, 1) := by decide +kernel
theorem dL_run_17 : decode cL_run 17 = .ok (.iconst 0, 1) := by decide +kernel
theorem dL_run_18 : decode cL_run 18 = .ok (.ireturn, 1) := by decide +kernel
theorem dL_errorPosition_0 : decode cL_errorPosition 0 = .ok (.aload_n 1, 1) := by decide +kernel
theorem dL_errorPosition_1 : decode cL_errorPosition 1 = .ok (.iconst 0, 1) := by decide +kernel
theorem dL_errorPosition_2 : decode cL_errorPosition 2 = .ok (.aload_n 0, 1) := by decide +kernel
theorem dL_errorPosition_3 : decode cL_errorPosition 3 = .ok (.invokevirtual 144, 3) := by decide +kernel
theorem dL_errorPosition_6 : decode cL_errorPosition 6 = .ok (.i2l, 1) := by decide +kernel
theorem dL_errorPosition_7 : decode cL_errorPosition 7 = .ok (.lastore, 1) := by decide +kernel
theorem dL_errorPosition_8 : decode cL_errorPosition 8 = .ok (.goto 6, 3) := by decide +kernel
theorem dL_errorPosition_11 : decode cL_errorPosition 11 = .ok (.astore_n 2, 1) := by decide +kernel
theorem dL_errorPosition_12 : decode cL_errorPosition 12 = .ok (.iconst 1, 1) := by decide +kernel
theorem dL_errorPosition_13 : decode cL_errorPosition 13 = .ok (.ireturn, 1) := by decide +kernel
theorem dL_errorPosition_14 : decode cL_errorPosition 14 = .ok (.iconst 0, 1) := by decide +kernel
theorem dL_errorPosition_15 : decode cL_errorPosition 15 = .ok (.ireturn, 1) := by decide +kernel
theorem dL_failedCommand_0 : decode cL_failedCommand 0 = .ok (.aload_n 1, 1) := by decide +kernel
theorem dL_failedCommand_1 : decode cL_failedCommand 1 = .ok (.iconst 0, 1) := by decide +kernel
theorem dL_failedCommand_2 : decode cL_failedCommand 2 = .ok (.aload_n 0, 1) := by decide +kernel
theorem dL_failedCommand_3 : decode cL_failedCommand 3 = .ok (.invokevirtual 147, 3) := by decide +kernel
theorem dL_failedCommand_6 : decode cL_failedCommand 6 = .ok (.i2l, 1) := by decide +kernel
theorem dL_failedCommand_7 : decode cL_failedCommand 7 = .ok (.lastore, 1) := by decide +kernel
theorem dL_failedCommand_8 : decode cL_failedCommand 8 = .ok (.goto 6, 3) := by decide +kernel
theorem dL_failedCommand_11 : decode cL_failedCommand 11 = .ok (.astore_n 2, 1) := by decide +kernel
theorem dL_failedCommand_12 : decode cL_failedCommand 12 = .ok (.iconst 1, 1) := by decide +kernel
theorem dL_failedCommand_13 : decode cL_failedCommand 13 = .ok (.ireturn, 1) := by decide +kernel
theorem dL_failedCommand_14 : decode cL_failedCommand 14 = .ok (.iconst 0, 1) := by decide +kernel
theorem dL_failedCommand_15 : decode cL_failedCommand 15 = .ok (.ireturn, 1) := by decide +kernel
theorem dL_undo_0 : decode cL_undo 0 = .ok (.aload_n 1, 1) := by decide +kernel
theorem dL_undo_1 : decode cL_undo 1 = .ok (.iconst 0, 1) := by decide +kernel
theorem dL_undo_2 : decode cL_undo 2 = .ok (.aload_n 0, 1) := by decide +kernel
theorem dL_undo_3 : decode cL_undo 3 = .ok (.invokevirtual 150, 3) := by decide +kernel
theorem dL_undo_6 : decode cL_undo 6 = .ok (.i2l, 1) := by decide +kernel
theorem dL_undo_7 : decode cL_undo 7 = .ok (.lastore, 1) := by decide +kernel
theorem dL_undo_8 : decode cL_undo 8 = .ok (.goto 6, 3) := by decide +kernel
theorem dL_undo_11 : decode cL_undo 11 = .ok (.astore_n 2, 1) := by decide +kernel
theorem dL_undo_12 : decode cL_undo 12 = .ok (.iconst 1, 1) := by decide +kernel
theorem dL_undo_13 : decode cL_undo 13 = .ok (.ireturn, 1) := by decide +kernel
theorem dL_undo_14 : decode cL_undo 14 = .ok (.iconst 0, 1) := by decide +kernel
theorem dL_undo_15 : decode cL_undo 15 = .ok (.ireturn, 1) := by decide +kernel
theorem dL_restore_0 : decode cL_restore 0 = .ok (.aload_n 1, 1) := by decide +kernel
theorem dL_restore_1 : decode cL_restore 1 = .ok (.iconst 0, 1) := by decide +kernel
theorem dL_restore_2 : decode cL_restore 2 = .ok (.aload_n 0, 1) := by decide +kernel
theorem dL_restore_3 : decode cL_restore 3 = .ok (.invokevirtual 153, 3) := by decide +kernel
theorem dL_restore_6 : decode cL_restore 6 = .ok (.i2l, 1) := by decide +kernel
theorem dL_restore_7 : decode cL_restore 7 = .ok (.lastore, 1) := by decide +kernel
theorem dL_restore_8 : decode cL_restore 8 = .ok (.goto 6, 3) := by decide +kernel
theorem dL_restore_11 : decode cL_restore 11 = .ok (.astore_n 2, 1) := by decide +kernel
theorem dL_restore_12 : decode cL_restore 12 = .ok (.iconst 1, 1) := by decide +kernel
theorem dL_restore_13 : decode cL_restore 13 = .ok (.ireturn, 1) := by decide +kernel
theorem dL_restore_14 : decode cL_restore 14 = .ok (.iconst 0, 1) := by decide +kernel
theorem dL_restore_15 : decode cL_restore 15 = .ok (.ireturn, 1) := by decide +kernel
theorem dL_law_0 : decode cL_law 0 = .ok (.new 8, 3) := by decide +kernel
theorem dL_law_3 : decode cL_law 3 = .ok (.dup, 1) := by decide +kernel
theorem dL_law_4 : decode cL_law 4 = .ok (.invokespecial 156, 3) := by decide +kernel
theorem dL_law_7 : decode cL_law 7 = .ok (.astore_n 1, 1) := by decide +kernel
theorem dL_law_8 : decode cL_law 8 = .ok (.new 157, 3) := by decide +kernel
theorem dL_law_11 : decode cL_law 11 = .ok (.dup, 1) := by decide +kernel
theorem dL_law_12 : decode cL_law 12 = .ok (.invokespecial 159, 3) := by decide +kernel
theorem dL_law_15 : decode cL_law 15 = .ok (.astore_n 2, 1) := by decide +kernel
theorem dL_law_16 : decode cL_law 16 = .ok (.iconst 1, 1) := by decide +kernel
theorem dL_law_17 : decode cL_law 17 = .ok (.newarray .long, 2) := by decide +kernel
theorem dL_law_19 : decode cL_law 19 = .ok (.astore_n 3, 1) := by decide +kernel
theorem dL_law_20 : decode cL_law 20 = .ok (.iconst 1, 1) := by decide +kernel
theorem dL_law_21 : decode cL_law 21 = .ok (.newarray .double, 2) := by decide +kernel
theorem dL_law_23 : decode cL_law 23 = .ok (.astore 4, 2) := by decide +kernel
theorem dL_law_25 : decode cL_law 25 = .ok (.iconst 0, 1) := by decide +kernel
theorem dL_law_26 : decode cL_law 26 = .ok (.istore 5, 2) := by decide +kernel
theorem dL_law_28 : decode cL_law 28 = .ok (.iload 5, 2) := by decide +kernel
theorem dL_law_30 : decode cL_law 30 = .ok (.aload_n 0, 1) := by decide +kernel
theorem dL_law_31 : decode cL_law 31 = .ok (.arraylength, 1) := by decide +kernel
theorem dL_law_32 : decode cL_law 32 = .ok (.iconst 5, 1) := by decide +kernel
theorem dL_law_33 : decode cL_law 33 = .ok (.isub, 1) := by decide +kernel
theorem dL_law_34 : decode cL_law 34 = .ok (.if_icmp .gt 3492, 3) := by decide +kernel
theorem dL_law_37 : decode cL_law 37 = .ok (.aload_n 0, 1) := by decide +kernel
theorem dL_law_38 : decode cL_law 38 = .ok (.iload 5, 2) := by decide +kernel
theorem dL_law_40 : decode cL_law 40 = .ok (.iaload, 1) := by decide +kernel
theorem dL_law_41 : decode cL_law 41 = .ok (.bipush 63, 2) := by decide +kernel
theorem dL_law_43 : decode cL_law 43 = .ok (.iand, 1) := by decide +kernel
theorem dL_law_44 : decode cL_law 44 = .ok (.tableswitch 3476 0 63 #[272, 328, 418, 486, 578, 634, 678, 734, 812, 890, 968, 1009, 1065, 1131, 1144, 1222, 1300, 1378, 1434, 1490, 1553, 1609, 1665, 1721, 1734, 1790, 1846, 1902, 1980, 2036, 2092, 2105, 2118, 2161, 2204, 2247, 2290, 2333, 2376, 2419, 2432, 2510, 2566, 2644, 2722, 2765, 2808, 2821, 2834, 2847, 2912, 2978, 2991, 3047, 3103, 3116, 3172, 3230, 3274, 3318, 3362, 3375, 3419, 3432], 272) := by decide +kernel
theorem dL_law_316 : decode cL_law 316 = .ok (.aload_n 1, 1) := by decide +kernel
theorem dL_law_317 : decode cL_law 317 = .ok (.aload_n 0, 1) := by decide +kernel
theorem dL_law_318 : decode cL_law 318 = .ok (.iload 5, 2) := by decide +kernel
theorem dL_law_320 : decode cL_law 320 = .ok (.iconst 1, 1) := by decide +kernel
theorem dL_law_321 : decode cL_law 321 = .ok (.iadd, 1) := by decide +kernel
theorem dL_law_322 : decode cL_law 322 = .ok (.iaload, 1) := by decide +kernel
theorem dL_law_323 : decode cL_law 323 = .ok (.aload_n 3, 1) := by decide +kernel
theorem dL_law_324 : decode cL_law 324 = .ok (.invokestatic 160, 3) := by decide +kernel
theorem dL_law_327 : decode cL_law 327 = .ok (.istore 6, 2) := by decide +kernel
theorem dL_law_329 : decode cL_law 329 = .ok (.aload_n 2, 1) := by decide +kernel
theorem dL_law_330 : decode cL_law 330 = .ok (.aload_n 0, 1) := by decide +kernel
theorem dL_law_331 : decode cL_law 331 = .ok (.iload 5, 2) := by decide +kernel
theorem dL_law_333 : decode cL_law 333 = .ok (.iconst 1, 1) := by decide +kernel
theorem dL_law_334 : decode cL_law 334 = .ok (.iadd, 1) := by decide +kernel
theorem dL_law_335 : decode cL_law 335 = .ok (.iaload, 1) := by decide +kernel
theorem dL_law_336 : decode cL_law 336 = .ok (.invokevirtual 165, 3) := by decide +kernel
theorem dL_law_339 : decode cL_law 339 = .ok (.istore 7, 2) := by decide +kernel
theorem dL_law_341 : decode cL_law 341 = .ok (.aload_n 2, 1) := by decide +kernel
theorem dL_law_342 : decode cL_law 342 = .ok (.invokevirtual 166, 3) := by decide +kernel
theorem dL_law_345 : decode cL_law 345 = .ok (.iload 6, 2) := by decide +kernel
theorem dL_law_347 : decode cL_law 347 = .ok (.if_icmp .eq 5, 3) := by decide +kernel
theorem dL_law_350 : decode cL_law 350 = .ok (.iconst 0, 1) := by decide +kernel
theorem dL_law_351 : decode cL_law 351 = .ok (.ireturn, 1) := by decide +kernel
theorem dL_law_352 : decode cL_law 352 = .ok (.iload 6, 2) := by decide +kernel
theorem dL_law_354 : decode cL_law 354 = .ok (.ifCond .ne 15, 3) := by decide +kernel
theorem dL_law_357 : decode cL_law 357 = .ok (.aload_n 3, 1) := by decide +kernel
theorem dL_law_358 : decode cL_law 358 = .ok (.iconst 0, 1) := by decide +kernel
theorem dL_law_359 : decode cL_law 359 = .ok (.laload, 1) := by decide +kernel
theorem dL_law_360 : decode cL_law 360 = .ok (.iload 7, 2) := by decide +kernel
theorem dL_law_362 : decode cL_law 362 = .ok (.i2l, 1) := by decide +kernel
theorem dL_law_363 : decode cL_law 363 = .ok (.lcmp, 1) := by decide +kernel
theorem dL_law_364 : decode cL_law 364 = .ok (.ifCond .eq 5, 3) := by decide +kernel
theorem dL_law_367 : decode cL_law 367 = .ok (.iconst 0, 1) := by decide +kernel
theorem dL_law_368 : decode cL_law 368 = .ok (.ireturn, 1) := by decide +kernel
theorem dL_law_369 : decode cL_law 369 = .ok (.goto 3151, 3) := by decide +kernel
theorem dL_law_372 : decode cL_law 372 = .ok (.aload_n 1, 1) := by decide +kernel
theorem dL_law_373 : decode cL_law 373 = .ok (.aload_n 0, 1) := by decide +kernel
theorem dL_law_374 : decode cL_law 374 = .ok (.iload 5, 2) := by decide +kernel
theorem dL_law_376 : decode cL_law 376 = .ok (.iconst 1, 1) := by decide +kernel
theorem dL_law_377 : decode cL_law 377 = .ok (.iadd, 1) := by decide +kernel
theorem dL_law_378 : decode cL_law 378 = .ok (.iaload, 1) := by decide +kernel
theorem dL_law_379 : decode cL_law 379 = .ok (.aload_n 0, 1) := by decide +kernel
theorem dL_law_380 : decode cL_law 380 = .ok (.iload 5, 2) := by decide +kernel
theorem dL_law_382 : decode cL_law 382 = .ok (.iconst 2, 1) := by decide +kernel
theorem dL_law_383 : decode cL_law 383 = .ok (.iadd, 1) := by decide +kernel
theorem dL_law_384 : decode cL_law 384 = .ok (.iaload, 1) := by decide +kernel
theorem dL_law_385 : decode cL_law 385 = .ok (.aload 4, 2) := by decide +kernel
theorem dL_law_387 : decode cL_law 387 = .ok (.invokestatic 169, 3) := by decide +kernel
theorem dL_law_390 : decode cL_law 390 = .ok (.istore 6, 2) := by decide +kernel
theorem dL_law_392 : decode cL_law 392 = .ok (.aload_n 2, 1) := by decide +kernel
theorem dL_law_393 : decode cL_law 393 = .ok (.aload_n 0, 1) := by decide +kernel
theorem dL_law_394 : decode cL_law 394 = .ok (.iload 5, 2) := by decide +kernel
theorem dL_law_396 : decode cL_law 396 = .ok (.iconst 1, 1) := by decide +kernel
theorem dL_law_397 : decode cL_law 397 = .ok (.iadd, 1) := by decide +kernel
theorem dL_law_398 : decode cL_law 398 = .ok (.iaload, 1) := by decide +kernel
theorem dL_law_399 : decode cL_law 399 = .ok (.aload_n 0, 1) := by decide +kernel
theorem dL_law_400 : decode cL_law 400 = .ok (.iload 5, 2) := by decide +kernel
theorem dL_law_402 : decode cL_law 402 = .ok (.iconst 2, 1) := by decide +kernel
theorem dL_law_403 : decode cL_law 403 = .ok (.iadd, 1) := by decide +kernel
theorem dL_law_404 : decode cL_law 404 = .ok (.iaload, 1) := by decide +kernel
theorem dL_law_405 : decode cL_law 405 = .ok (.invokevirtual 172, 3) := by decide +kernel
theorem dL_law_408 : decode cL_law 408 = .ok (.fstore 7, 2) := by decide +kernel
theorem dL_law_410 : decode cL_law 410 = .ok (.aload_n 2, 1) := by decide +kernel
theorem dL_law_411 : decode cL_law 411 = .ok (.invokevirtual 166, 3) := by decide +kernel
theorem dL_law_414 : decode cL_law 414 = .ok (.iload 6, 2) := by decide +kernel
theorem dL_law_416 : decode cL_law 416 = .ok (.if_icmp .eq 5, 3) := by decide +kernel
theorem dL_law_419 : decode cL_law 419 = .ok (.iconst 0, 1) := by decide +kernel
theorem dL_law_420 : decode cL_law 420 = .ok (.ireturn, 1) := by decide +kernel
theorem dL_law_421 : decode cL_law 421 = .ok (.iload 6, 2) := by decide +kernel
theorem dL_law_423 : decode cL_law 423 = .ok (.ifCond .ne 36, 3) := by decide +kernel
theorem dL_law_426 : decode cL_law 426 = .ok (.aload 4, 2) := by decide +kernel
theorem dL_law_428 : decode cL_law 428 = .ok (.iconst 0, 1) := by decide +kernel
theorem dL_law_429 : decode cL_law 429 = .ok (.daload, 1) := by decide +kernel
theorem dL_law_430 : decode cL_law 430 = .ok (.fload 7, 2) := by decide +kernel
theorem dL_law_432 : decode cL_law 432 = .ok (.f2d, 1) := by decide +kernel
theorem dL_law_433 : decode cL_law 433 = .ok (.dcmp .l, 1) := by decide +kernel
theorem dL_law_434 : decode cL_law 434 = .ok (.ifCond .eq 25, 3) := by decide +kernel
theorem dL_law_437 : decode cL_law 437 = .ok (.aload 4, 2) := by decide +kernel
theorem dL_law_439 : decode cL_law 439 = .ok (.iconst 0, 1) := by decide +kernel
theorem dL_law_440 : decode cL_law 440 = .ok (.daload, 1) := by decide +kernel
theorem dL_law_441 : decode cL_law 441 = .ok (.aload 4, 2) := by decide +kernel
theorem dL_law_443 : decode cL_law 443 = .ok (.iconst 0, 1) := by decide +kernel
theorem dL_law_444 : decode cL_law 444 = .ok (.daload, 1) := by decide +kernel
theorem dL_law_445 : decode cL_law 445 = .ok (.dcmp .l, 1) := by decide +kernel
theorem dL_law_446 : decode cL_law 446 = .ok (.ifCond .eq 11, 3) := by decide +kernel
theorem dL_law_449 : decode cL_law 449 = .ok (.fload 7, 2) := by decide +kernel
theorem dL_law_451 : decode cL_law 451 = .ok (.fload 7, 2) := by decide +kernel
theorem dL_law_453 : decode cL_law 453 = .ok (.fcmp .l, 1) := by decide +kernel
theorem dL_law_454 : decode cL_law 454 = .ok (.ifCond .ne 5, 3) := by decide +kernel
theorem dL_law_457 : decode cL_law 457 = .ok (.iconst 0, 1) := by decide +kernel
theorem dL_law_458 : decode cL_law 458 = .ok (.ireturn, 1) := by decide +kernel
theorem dL_law_459 : decode cL_law 459 = .ok (.goto 3061, 3) := by decide +kernel
theorem dL_law_462 : decode cL_law 462 = .ok (.aload_n 1, 1) := by decide +kernel
theorem dL_law_463 : decode cL_law 463 = .ok (.aload_n 0, 1) := by decide +kernel
theorem dL_law_464 : decode cL_law 464 = .ok (.iload 5, 2) := by decide +kernel
theorem dL_law_466 : decode cL_law 466 = .ok (.iconst 1, 1) := by decide +kernel
theorem dL_law_467 : decode cL_law 467 = .ok (.iadd, 1) := by decide +kernel
theorem dL_law_468 : decode cL_law 468 = .ok (.iaload, 1) := by decide +kernel
theorem dL_law_469 : decode cL_law 469 = .ok (.aload_n 0, 1) := by decide +kernel
theorem dL_law_470 : decode cL_law 470 = .ok (.iload 5, 2) := by decide +kernel
theorem dL_law_472 : decode cL_law 472 = .ok (.iconst 2, 1) := by decide +kernel
theorem dL_law_473 : decode cL_law 473 = .ok (.iadd, 1) := by decide +kernel
theorem dL_law_474 : decode cL_law 474 = .ok (.iaload, 1) := by decide +kernel
theorem dL_law_475 : decode cL_law 475 = .ok (.aload_n 3, 1) := by decide +kernel
theorem dL_law_476 : decode cL_law 476 = .ok (.invokestatic 173, 3) := by decide +kernel
theorem dL_law_479 : decode cL_law 479 = .ok (.istore 6, 2) := by decide +kernel
theorem dL_law_481 : decode cL_law 481 = .ok (.aload_n 2, 1) := by decide +kernel
theorem dL_law_482 : decode cL_law 482 = .ok (.aload_n 0, 1) := by decide +kernel
theorem dL_law_483 : decode cL_law 483 = .ok (.iload 5, 2) := by decide +kernel
theorem dL_law_485 : decode cL_law 485 = .ok (.iconst 1, 1) := by decide +kernel
theorem dL_law_486 : decode cL_law 486 = .ok (.iadd, 1) := by decide +kernel
theorem dL_law_487 : decode cL_law 487 = .ok (.iaload, 1) := by decide +kernel
theorem dL_law_488 : decode cL_law 488 = .ok (.aload_n 0, 1) := by decide +kernel
theorem dL_law_489 : decode cL_law 489 = .ok (.iload 5, 2) := by decide +kernel
theorem dL_law_491 : decode cL_law 491 = .ok (.iconst 2, 1) := by decide +kernel
theorem dL_law_492 : decode cL_law 492 = .ok (.iadd, 1) := by decide +kernel
theorem dL_law_493 : decode cL_law 493 = .ok (.iaload, 1) := by decide +kernel
theorem dL_law_494 : decode cL_law 494 = .ok (.invokevirtual 176, 3) := by decide +kernel
theorem dL_law_497 : decode cL_law 497 = .ok (.istore 7, 2) := by decide +kernel
theorem dL_law_499 : decode cL_law 499 = .ok (.aload_n 2, 1) := by decide +kernel
theorem dL_law_500 : decode cL_law 500 = .ok (.invokevirtual 166, 3) := by decide +kernel
theorem dL_law_503 : decode cL_law 503 = .ok (.iload 6, 2) := by decide +kernel
theorem dL_law_505 : decode cL_law 505 = .ok (.if_icmp .eq 5, 3) := by decide +kernel
theorem dL_law_508 : decode cL_law 508 = .ok (.iconst 0, 1) := by decide +kernel
theorem dL_law_509 : decode cL_law 509 = .ok (.ireturn, 1) := by decide +kernel
theorem dL_law_510 : decode cL_law 510 = .ok (.iload 6, 2) := by decide +kernel
theorem dL_law_512 : decode cL_law 512 = .ok (.ifCond .ne 15, 3) := by decide +kernel
theorem dL_law_515 : decode cL_law 515 = .ok (.aload_n 3, 1) := by decide +kernel
theorem dL_law_516 : decode cL_law 516 = .ok (.iconst 0, 1) := by decide +kernel
theorem dL_law_517 : decode cL_law 517 = .ok (.laload, 1) := by decide +kernel
theorem dL_law_518 : decode cL_law 518 = .ok (.iload 7, 2) := by decide +kernel
theorem dL_law_520 : decode cL_law 520 = .ok (.i2l, 1) := by decide +kernel
theorem dL_law_521 : decode cL_law 521 = .ok (.lcmp, 1) := by decide +kernel
theorem dL_law_522 : decode cL_law 522 = .ok (.ifCond .eq 5, 3) := by decide +kernel
theorem dL_law_525 : decode cL_law 525 = .ok (.iconst 0, 1) := by decide +kernel
theorem dL_law_526 : decode cL_law 526 = .ok (.ireturn, 1) := by decide +kernel
theorem dL_law_527 : decode cL_law 527 = .ok (.goto 2993, 3) := by decide +kernel
theorem dL_law_530 : decode cL_law 530 = .ok (.aload_n 1, 1) := by decide +kernel
theorem dL_law_531 : decode cL_law 531 = .ok (.aload_n 0, 1) := by decide +kernel
theorem dL_law_532 : decode cL_law 532 = .ok (.iload 5, 2) := by decide +kernel
theorem dL_law_534 : decode cL_law 534 = .ok (.iconst 1, 1) := by decide +kernel
theorem dL_law_535 : decode cL_law 535 = .ok (.iadd, 1) := by decide +kernel
theorem dL_law_536 : decode cL_law 536 = .ok (.iaload, 1) := by decide +kernel
theorem dL_law_537 : decode cL_law 537 = .ok (.aload_n 0, 1) := by decide +kernel
theorem dL_law_538 : decode cL_law 538 = .ok (.iload 5, 2) := by decide +kernel
theorem dL_law_540 : decode cL_law 540 = .ok (.iconst 2, 1) := by decide +kernel
theorem dL_law_541 : decode cL_law 541 = .ok (.iadd, 1) := by decide +kernel
theorem dL_law_542 : decode cL_law 542 = .ok (.iaload, 1) := by decide +kernel
theorem dL_law_543 : decode cL_law 543 = .ok (.aload_n 0, 1) := by decide +kernel
theorem dL_law_544 : decode cL_law 544 = .ok (.iload 5, 2) := by decide +kernel
theorem dL_law_546 : decode cL_law 546 = .ok (.iconst 3, 1) := by decide +kernel
theorem dL_law_547 : decode cL_law 547 = .ok (.iadd, 1) := by decide +kernel
theorem dL_law_548 : decode cL_law 548 = .ok (.iaload, 1) := by decide +kernel
theorem dL_law_549 : decode cL_law 549 = .ok (.aload_n 0, 1) := by decide +kernel
theorem dL_law_550 : decode cL_law 550 = .ok (.iload 5, 2) := by decide +kernel
theorem dL_law_552 : decode cL_law 552 = .ok (.iconst 4, 1) := by decide +kernel
theorem dL_law_553 : decode cL_law 553 = .ok (.iadd, 1) := by decide +kernel
theorem dL_law_554 : decode cL_law 554 = .ok (.iaload, 1) := by decide +kernel
theorem dL_law_555 : decode cL_law 555 = .ok (.aload_n 3, 1) := by decide +kernel
theorem dL_law_556 : decode cL_law 556 = .ok (.invokestatic 177, 3) := by decide +kernel
theorem dL_law_559 : decode cL_law 559 = .ok (.istore 6, 2) := by decide +kernel
theorem dL_law_561 : decode cL_law 561 = .ok (.aload_n 2, 1) := by decide +kernel
theorem dL_law_562 : decode cL_law 562 = .ok (.aload_n 0, 1) := by decide +kernel
theorem dL_law_563 : decode cL_law 563 = .ok (.iload 5, 2) := by decide +kernel
theorem dL_law_565 : decode cL_law 565 = .ok (.iconst 1, 1) := by decide +kernel
theorem dL_law_566 : decode cL_law 566 = .ok (.iadd, 1) := by decide +kernel
theorem dL_law_567 : decode cL_law 567 = .ok (.iaload, 1) := by decide +kernel
theorem dL_law_568 : decode cL_law 568 = .ok (.aload_n 0, 1) := by decide +kernel
theorem dL_law_569 : decode cL_law 569 = .ok (.iload 5, 2) := by decide +kernel
theorem dL_law_571 : decode cL_law 571 = .ok (.iconst 2, 1) := by decide +kernel
theorem dL_law_572 : decode cL_law 572 = .ok (.iadd, 1) := by decide +kernel
theorem dL_law_573 : decode cL_law 573 = .ok (.iaload, 1) := by decide +kernel
theorem dL_law_574 : decode cL_law 574 = .ok (.aload_n 0, 1) := by decide +kernel
theorem dL_law_575 : decode cL_law 575 = .ok (.iload 5, 2) := by decide +kernel
theorem dL_law_577 : decode cL_law 577 = .ok (.iconst 3, 1) := by decide +kernel
theorem dL_law_578 : decode cL_law 578 = .ok (.iadd, 1) := by decide +kernel
theorem dL_law_579 : decode cL_law 579 = .ok (.iaload, 1) := by decide +kernel
theorem dL_law_580 : decode cL_law 580 = .ok (.aload_n 0, 1) := by decide +kernel
theorem dL_law_581 : decode cL_law 581 = .ok (.iload 5, 2) := by decide +kernel
theorem dL_law_583 : decode cL_law 583 = .ok (.iconst 4, 1) := by decide +kernel
theorem dL_law_584 : decode cL_law 584 = .ok (.iadd, 1) := by decide +kernel
theorem dL_law_585 : decode cL_law 585 = .ok (.iaload, 1) := by decide +kernel
theorem dL_law_586 : decode cL_law 586 = .ok (.invokevirtual 180, 3) := by decide +kernel
theorem dL_law_589 : decode cL_law 589 = .ok (.istore 7, 2) := by decide +kernel
theorem dL_law_591 : decode cL_law 591 = .ok (.aload_n 2, 1) := by decide +kernel
theorem dL_law_592 : decode cL_law 592 = .ok (.invokevirtual 166, 3) := by decide +kernel
theorem dL_law_595 : decode cL_law 595 = .ok (.iload 6, 2) := by decide +kernel
theorem dL_law_597 : decode cL_law 597 = .ok (.if_icmp .eq 5, 3) := by decide +kernel
theorem dL_law_600 : decode cL_law 600 = .ok (.iconst 0, 1) := by decide +kernel
theorem dL_law_601 : decode cL_law 601 = .ok (.ireturn, 1) := by decide +kernel
theorem dL_law_602 : decode cL_law 602 = .ok (.iload 6, 2) := by decide +kernel
theorem dL_law_604 : decode cL_law 604 = .ok (.ifCond .ne 15, 3) := by decide +kernel
theorem dL_law_607 : decode cL_law 607 = .ok (.aload_n 3, 1) := by decide +kernel
theorem dL_law_608 : decode cL_law 608 = .ok (.iconst 0, 1) := by decide +kernel
theorem dL_law_609 : decode cL_law 609 = .ok (.laload, 1) := by decide +kernel
theorem dL_law_610 : decode cL_law 610 = .ok (.iload 7, 2) := by decide +kernel
theorem dL_law_612 : decode cL_law 612 = .ok (.i2l, 1) := by decide +kernel
theorem dL_law_613 : decode cL_law 613 = .ok (.lcmp, 1) := by decide +kernel
theorem dL_law_614 : decode cL_law 614 = .ok (.ifCond .eq 5, 3) := by decide +kernel
theorem dL_law_617 : decode cL_law 617 = .ok (.iconst 0, 1) := by decide +kernel
theorem dL_law_618 : decode cL_law 618 = .ok (.ireturn, 1) := by decide +kernel
theorem dL_law_619 : decode cL_law 619 = .ok (.goto 2901, 3) := by decide +kernel
theorem dL_law_622 : decode cL_law 622 = .ok (.aload_n 1, 1) := by decide +kernel
theorem dL_law_623 : decode cL_law 623 = .ok (.aload_n 0, 1) := by decide +kernel
theorem dL_law_624 : decode cL_law 624 = .ok (.iload 5, 2) := by decide +kernel
theorem dL_law_626 : decode cL_law 626 = .ok (.iconst 1, 1) := by decide +kernel
theorem dL_law_627 : decode cL_law 627 = .ok (.iadd, 1) := by decide +kernel
theorem dL_law_628 : decode cL_law 628 = .ok (.iaload, 1) := by decide +kernel
theorem dL_law_629 : decode cL_law 629 = .ok (.aload_n 3, 1) := by decide +kernel
theorem dL_law_630 : decode cL_law 630 = .ok (.invokestatic 181, 3) := by decide +kernel
theorem dL_law_633 : decode cL_law 633 = .ok (.istore 6, 2) := by decide +kernel
theorem dL_law_635 : decode cL_law 635 = .ok (.aload_n 2, 1) := by decide +kernel
theorem dL_law_636 : decode cL_law 636 = .ok (.aload_n 0, 1) := by decide +kernel
theorem dL_law_637 : decode cL_law 637 = .ok (.iload 5, 2) := by decide +kernel
theorem dL_law_639 : decode cL_law 639 = .ok (.iconst 1, 1) := by decide +kernel
theorem dL_law_640 : decode cL_law 640 = .ok (.iadd, 1) := by decide +kernel
theorem dL_law_641 : decode cL_law 641 = .ok (.iaload, 1) := by decide +kernel
theorem dL_law_642 : decode cL_law 642 = .ok (.invokevirtual 183, 3) := by decide +kernel
theorem dL_law_645 : decode cL_law 645 = .ok (.istore 7, 2) := by decide +kernel
theorem dL_law_647 : decode cL_law 647 = .ok (.aload_n 2, 1) := by decide +kernel
theorem dL_law_648 : decode cL_law 648 = .ok (.invokevirtual 166, 3) := by decide +kernel
theorem dL_law_651 : decode cL_law 651 = .ok (.iload 6, 2) := by decide +kernel
theorem dL_law_653 : decode cL_law 653 = .ok (.if_icmp .eq 5, 3) := by decide +kernel
theorem dL_law_656 : decode cL_law 656 = .ok (.iconst 0, 1) := by decide +kernel
theorem dL_law_657 : decode cL_law 657 = .ok (.ireturn, 1) := by decide +kernel
theorem dL_law_658 : decode cL_law 658 = .ok (.iload 6, 2) := by decide +kernel
theorem dL_law_660 : decode cL_law 660 = .ok (.ifCond .ne 15, 3) := by decide +kernel
theorem dL_law_663 : decode cL_law 663 = .ok (.aload_n 3, 1) := by decide +kernel
theorem dL_law_664 : decode cL_law 664 = .ok (.iconst 0, 1) := by decide +kernel
theorem dL_law_665 : decode cL_law 665 = .ok (.laload, 1) := by decide +kernel
theorem dL_law_666 : decode cL_law 666 = .ok (.iload 7, 2) := by decide +kernel
theorem dL_law_668 : decode cL_law 668 = .ok (.i2l, 1) := by decide +kernel
theorem dL_law_669 : decode cL_law 669 = .ok (.lcmp, 1) := by decide +kernel
theorem dL_law_670 : decode cL_law 670 = .ok (.ifCond .eq 5, 3) := by decide +kernel
theorem dL_law_673 : decode cL_law 673 = .ok (.iconst 0, 1) := by decide +kernel
theorem dL_law_674 : decode cL_law 674 = .ok (.ireturn, 1) := by decide +kernel
theorem dL_law_675 : decode cL_law 675 = .ok (.goto 2845, 3) := by decide +kernel
theorem dL_law_678 : decode cL_law 678 = .ok (.aload_n 1, 1) := by decide +kernel
theorem dL_law_679 : decode cL_law 679 = .ok (.aload_n 3, 1) := by decide +kernel
theorem dL_law_680 : decode cL_law 680 = .ok (.invokestatic 184, 3) := by decide +kernel
theorem dL_law_683 : decode cL_law 683 = .ok (.istore 6, 2) := by decide +kernel
theorem dL_law_685 : decode cL_law 685 = .ok (.aload_n 2, 1) := by decide +kernel
theorem dL_law_686 : decode cL_law 686 = .ok (.invokevirtual 187, 3) := by decide +kernel
theorem dL_law_689 : decode cL_law 689 = .ok (.istore 7, 2) := by decide +kernel
theorem dL_law_691 : decode cL_law 691 = .ok (.aload_n 2, 1) := by decide +kernel
theorem dL_law_692 : decode cL_law 692 = .ok (.invokevirtual 166, 3) := by decide +kernel
theorem dL_law_695 : decode cL_law 695 = .ok (.iload 6, 2) := by decide +kernel
theorem dL_law_697 : decode cL_law 697 = .ok (.if_icmp .eq 5, 3) := by decide +kernel
theorem dL_law_700 : decode cL_law 700 = .ok (.iconst 0, 1) := by decide +kernel
theorem dL_law_701 : decode cL_law 701 = .ok (.ireturn, 1) := by decide +kernel
theorem dL_law_702 : decode cL_law 702 = .ok (.iload 6, 2) := by decide +kernel
theorem dL_law_704 : decode cL_law 704 = .ok (.ifCond .ne 15, 3) := by decide +kernel
theorem dL_law_707 : decode cL_law 707 = .ok (.aload_n 3, 1) := by decide +kernel
theorem dL_law_708 : decode cL_law 708 = .ok (.iconst 0, 1) := by decide +kernel
theorem dL_law_709 : decode cL_law 709 = .ok (.laload, 1) := by decide +kernel
theorem dL_law_710 : decode cL_law 710 = .ok (.iload 7, 2) := by decide +kernel
theorem dL_law_712 : decode cL_law 712 = .ok (.i2l, 1) := by decide +kernel
theorem dL_law_713 : decode cL_law 713 = .ok (.lcmp, 1) := by decide +kernel
theorem dL_law_714 : decode cL_law 714 = .ok (.ifCond .eq 5, 3) := by decide +kernel
theorem dL_law_717 : decode cL_law 717 = .ok (.iconst 0, 1) := by decide +kernel
theorem dL_law_718 : decode cL_law 718 = .ok (.ireturn, 1) := by decide +kernel
theorem dL_law_719 : decode cL_law 719 = .ok (.goto 2801, 3) := by decide +kernel
theorem dL_law_722 : decode cL_law 722 = .ok (.aload_n 1, 1) := by decide +kernel
theorem dL_law_723 : decode cL_law 723 = .ok (.aload_n 0, 1) := by decide +kernel
theorem dL_law_724 : decode cL_law 724 = .ok (.iload 5, 2) := by decide +kernel
theorem dL_law_726 : decode cL_law 726 = .ok (.iconst 1, 1) := by decide +kernel
theorem dL_law_727 : decode cL_law 727 = .ok (.iadd, 1) := by decide +kernel
theorem dL_law_728 : decode cL_law 728 = .ok (.iaload, 1) := by decide +kernel
theorem dL_law_729 : decode cL_law 729 = .ok (.aload_n 3, 1) := by decide +kernel
theorem dL_law_730 : decode cL_law 730 = .ok (.invokestatic 188, 3) := by decide +kernel
theorem dL_law_733 : decode cL_law 733 = .ok (.istore 6, 2) := by decide +kernel
theorem dL_law_735 : decode cL_law 735 = .ok (.aload_n 2, 1) := by decide +kernel
theorem dL_law_736 : decode cL_law 736 = .ok (.aload_n 0, 1) := by decide +kernel
theorem dL_law_737 : decode cL_law 737 = .ok (.iload 5, 2) := by decide +kernel
theorem dL_law_739 : decode cL_law 739 = .ok (.iconst 1, 1) := by decide +kernel
theorem dL_law_740 : decode cL_law 740 = .ok (.iadd, 1) := by decide +kernel
theorem dL_law_741 : decode cL_law 741 = .ok (.iaload, 1) := by decide +kernel
theorem dL_law_742 : decode cL_law 742 = .ok (.invokevirtual 190, 3) := by decide +kernel
theorem dL_law_745 : decode cL_law 745 = .ok (.istore 7, 2) := by decide +kernel
theorem dL_law_747 : decode cL_law 747 = .ok (.aload_n 2, 1) := by decide +kernel
theorem dL_law_748 : decode cL_law 748 = .ok (.invokevirtual 166, 3) := by decide +kernel
theorem dL_law_751 : decode cL_law 751 = .ok (.iload 6, 2) := by decide +kernel
theorem dL_law_753 : decode cL_law 753 = .ok (.if_icmp .eq 5, 3) := by decide +kernel
theorem dL_law_756 : decode cL_law 756 = .ok (.iconst 0, 1) := by decide +kernel
theorem dL_law_757 : decode cL_law 757 = .ok (.ireturn, 1) := by decide +kernel
theorem dL_law_758 : decode cL_law 758 = .ok (.iload 6, 2) := by decide +kernel
theorem dL_law_760 : decode cL_law 760 = .ok (.ifCond .ne 15, 3) := by decide +kernel
theorem dL_law_763 : decode cL_law 763 = .ok (.aload_n 3, 1) := by decide +kernel
theorem dL_law_764 : decode cL_law 764 = .ok (.iconst 0, 1) := by decide +kernel
theorem dL_law_765 : decode cL_law 765 = .ok (.laload, 1) := by decide +kernel
theorem dL_law_766 : decode cL_law 766 = .ok (.iload 7, 2) := by decide +kernel
theorem dL_law_768 : decode cL_law 768 = .ok (.i2l, 1) := by decide +kernel
theorem dL_law_769 : decode cL_law 769 = .ok (.lcmp, 1) := by decide +kernel
theorem dL_law_770 : decode cL_law 770 = .ok (.ifCond .eq 5, 3) := by decide +kernel
theorem dL_law_773 : decode cL_law 773 = .ok (.iconst 0, 1) := by decide +kernel
theorem dL_law_774 : decode cL_law 774 = .ok (.ireturn, 1) := by decide +kernel
theorem dL_law_775 : decode cL_law 775 = .ok (.goto 2745, 3) := by decide +kernel
theorem dL_law_778 : decode cL_law 778 = .ok (.aload_n 1, 1) := by decide +kernel
theorem dL_law_779 : decode cL_law 779 = .ok (.aload_n 0, 1) := by decide +kernel
theorem dL_law_780 : decode cL_law 780 = .ok (.iload 5, 2) := by decide +kernel
theorem dL_law_782 : decode cL_law 782 = .ok (.iconst 1, 1) := by decide +kernel
theorem dL_law_783 : decode cL_law 783 = .ok (.iadd, 1) := by decide +kernel
theorem dL_law_784 : decode cL_law 784 = .ok (.iaload, 1) := by decide +kernel
theorem dL_law_785 : decode cL_law 785 = .ok (.aload 4, 2) := by decide +kernel
theorem dL_law_787 : decode cL_law 787 = .ok (.invokestatic 191, 3) := by decide +kernel
theorem dL_law_790 : decode cL_law 790 = .ok (.istore 6, 2) := by decide +kernel
theorem dL_law_792 : decode cL_law 792 = .ok (.aload_n 2, 1) := by decide +kernel
theorem dL_law_793 : decode cL_law 793 = .ok (.aload_n 0, 1) := by decide +kernel
theorem dL_law_794 : decode cL_law 794 = .ok (.iload 5, 2) := by decide +kernel
theorem dL_law_796 : decode cL_law 796 = .ok (.iconst 1, 1) := by decide +kernel
theorem dL_law_797 : decode cL_law 797 = .ok (.iadd, 1) := by decide +kernel
theorem dL_law_798 : decode cL_law 798 = .ok (.iaload, 1) := by decide +kernel
theorem dL_law_799 : decode cL_law 799 = .ok (.invokevirtual 194, 3) := by decide +kernel
theorem dL_law_802 : decode cL_law 802 = .ok (.fstore 7, 2) := by decide +kernel
theorem dL_law_804 : decode cL_law 804 = .ok (.aload_n 2, 1) := by decide +kernel
theorem dL_law_805 : decode cL_law 805 = .ok (.invokevirtual 166, 3) := by decide +kernel
theorem dL_law_808 : decode cL_law 808 = .ok (.iload 6, 2) := by decide +kernel
theorem dL_law_810 : decode cL_law 810 = .ok (.if_icmp .eq 5, 3) := by decide +kernel
theorem dL_law_813 : decode cL_law 813 = .ok (.iconst 0, 1) := by decide +kernel
theorem dL_law_814 : decode cL_law 814 = .ok (.ireturn, 1) := by decide +kernel
theorem dL_law_815 : decode cL_law 815 = .ok (.iload 6, 2) := by decide +kernel
theorem dL_law_817 : decode cL_law 817 = .ok (.ifCond .ne 36, 3) := by decide +kernel
theorem dL_law_820 : decode cL_law 820 = .ok (.aload 4, 2) := by decide +kernel
theorem dL_law_822 : decode cL_law 822 = .ok (.iconst 0, 1) := by decide +kernel
theorem dL_law_823 : decode cL_law 823 = .ok (.daload, 1) := by decide +kernel
theorem dL_law_824 : decode cL_law 824 = .ok (.fload 7, 2) := by decide +kernel
theorem dL_law_826 : decode cL_law 826 = .ok (.f2d, 1) := by decide +kernel
theorem dL_law_827 : decode cL_law 827 = .ok (.dcmp .l, 1) := by decide +kernel
theorem dL_law_828 : decode cL_law 828 = .ok (.ifCond .eq 25, 3) := by decide +kernel
theorem dL_law_831 : decode cL_law 831 = .ok (.aload 4, 2) := by decide +kernel
theorem dL_law_833 : decode cL_law 833 = .ok (.iconst 0, 1) := by decide +kernel
theorem dL_law_834 : decode cL_law 834 = .ok (.daload, 1) := by decide +kernel
theorem dL_law_835 : decode cL_law 835 = .ok (.aload 4, 2) := by decide +kernel
theorem dL_law_837 : decode cL_law 837 = .ok (.iconst 0, 1) := by decide +kernel
theorem dL_law_838 : decode cL_law 838 = .ok (.daload, 1) := by decide +kernel
theorem dL_law_839 : decode cL_law 839 = .ok (.dcmp .l, 1) := by decide +kernel
theorem dL_law_840 : decode cL_law 840 = .ok (.ifCond .eq 11, 3) := by decide +kernel
theorem dL_law_843 : decode cL_law 843 = .ok (.fload 7, 2) := by decide +kernel
theorem dL_law_845 : decode cL_law 845 = .ok (.fload 7, 2) := by decide +kernel
theorem dL_law_847 : decode cL_law 847 = .ok (.fcmp .l, 1) := by decide +kernel
theorem dL_law_848 : decode cL_law 848 = .ok (.ifCond .ne 5, 3) := by decide +kernel
theorem dL_law_851 : decode cL_law 851 = .ok (.iconst 0, 1) := by decide +kernel
theorem dL_law_852 : decode cL_law 852 = .ok (.ireturn, 1) := by decide +kernel
theorem dL_law_853 : decode cL_law 853 = .ok (.goto 2667, 3) := by decide +kernel
theorem dL_law_856 : decode cL_law 856 = .ok (.aload_n 1, 1) := by decide +kernel
theorem dL_law_857 : decode cL_law 857 = .ok (.aload_n 0, 1) := by decide +kernel
theorem dL_law_858 : decode cL_law 858 = .ok (.iload 5, 2) := by decide +kernel
theorem dL_law_860 : decode cL_law 860 = .ok (.iconst 1, 1) := by decide +kernel
theorem dL_law_861 : decode cL_law 861 = .ok (.iadd, 1) := by decide +kernel
theorem dL_law_862 : decode cL_law 862 = .ok (.iaload, 1) := by decide +kernel
theorem dL_law_863 : decode cL_law 863 = .ok (.aload 4, 2) := by decide +kernel
theorem dL_law_865 : decode cL_law 865 = .ok (.invokestatic 195, 3) := by decide +kernel
theorem dL_law_868 : decode cL_law 868 = .ok (.istore 6, 2) := by decide +kernel
theorem dL_law_870 : decode cL_law 870 = .ok (.aload_n 2, 1) := by decide +kernel
theorem dL_law_871 : decode cL_law 871 = .ok (.aload_n 0, 1) := by decide +kernel
theorem dL_law_872 : decode cL_law 872 = .ok (.iload 5, 2) := by decide +kernel
theorem dL_law_874 : decode cL_law 874 = .ok (.iconst 1, 1) := by decide +kernel
theorem dL_law_875 : decode cL_law 875 = .ok (.iadd, 1) := by decide +kernel
theorem dL_law_876 : decode cL_law 876 = .ok (.iaload, 1) := by decide +kernel
theorem dL_law_877 : decode cL_law 877 = .ok (.invokevirtual 197, 3) := by decide +kernel
theorem dL_law_880 : decode cL_law 880 = .ok (.fstore 7, 2) := by decide +kernel
theorem dL_law_882 : decode cL_law 882 = .ok (.aload_n 2, 1) := by decide +kernel
theorem dL_law_883 : decode cL_law 883 = .ok (.invokevirtual 166, 3) := by decide +kernel
theorem dL_law_886 : decode cL_law 886 = .ok (.iload 6, 2) := by decide +kernel
theorem dL_law_888 : decode cL_law 888 = .ok (.if_icmp .eq 5, 3) := by decide +kernel
theorem dL_law_891 : decode cL_law 891 = .ok (.iconst 0, 1) := by decide +kernel
theorem dL_law_892 : decode cL_law 892 = .ok (.ireturn, 1) := by decide +kernel
theorem dL_law_893 : decode cL_law 893 = .ok (.iload 6, 2) := by decide +kernel
theorem dL_law_895 : decode cL_law 895 = .ok (.ifCond .ne 36, 3) := by decide +kernel
theorem dL_law_898 : decode cL_law 898 = .ok (.aload 4, 2) := by decide +kernel
theorem dL_law_900 : decode cL_law 900 = .ok (.iconst 0, 1) := by decide +kernel
theorem dL_law_901 : decode cL_law 901 = .ok (.daload, 1) := by decide +kernel
theorem dL_law_902 : decode cL_law 902 = .ok (.fload 7, 2) := by decide +kernel
theorem dL_law_904 : decode cL_law 904 = .ok (.f2d, 1) := by decide +kernel
theorem dL_law_905 : decode cL_law 905 = .ok (.dcmp .l, 1) := by decide +kernel
theorem dL_law_906 : decode cL_law 906 = .ok (.ifCond .eq 25, 3) := by decide +kernel
theorem dL_law_909 : decode cL_law 909 = .ok (.aload 4, 2) := by decide +kernel
theorem dL_law_911 : decode cL_law 911 = .ok (.iconst 0, 1) := by decide +kernel
theorem dL_law_912 : decode cL_law 912 = .ok (.daload, 1) := by decide +kernel
theorem dL_law_913 : decode cL_law 913 = .ok (.aload 4, 2) := by decide +kernel
theorem dL_law_915 : decode cL_law 915 = .ok (.iconst 0, 1) := by decide +kernel
theorem dL_law_916 : decode cL_law 916 = .ok (.daload, 1) := by decide +kernel
theorem dL_law_917 : decode cL_law 917 = .ok (.dcmp .l, 1) := by decide +kernel
theorem dL_law_918 : decode cL_law 918 = .ok (.ifCond .eq 11, 3) := by decide +kernel
theorem dL_law_921 : decode cL_law 921 = .ok (.fload 7, 2) := by decide +kernel
theorem dL_law_923 : decode cL_law 923 = .ok (.fload 7, 2) := by decide +kernel
theorem dL_law_925 : decode cL_law 925 = .ok (.fcmp .l, 1) := by decide +kernel
theorem dL_law_926 : decode cL_law 926 = .ok (.ifCond .ne 5, 3) := by decide +kernel
theorem dL_law_929 : decode cL_law 929 = .ok (.iconst 0, 1) := by decide +kernel
theorem dL_law_930 : decode cL_law 930 = .ok (.ireturn, 1) := by decide +kernel
theorem dL_law_931 : decode cL_law 931 = .ok (.goto 2589, 3) := by decide +kernel
theorem dL_law_934 : decode cL_law 934 = .ok (.aload_n 1, 1) := by decide +kernel
theorem dL_law_935 : decode cL_law 935 = .ok (.aload_n 0, 1) := by decide +kernel
theorem dL_law_936 : decode cL_law 936 = .ok (.iload 5, 2) := by decide +kernel
theorem dL_law_938 : decode cL_law 938 = .ok (.iconst 1, 1) := by decide +kernel
theorem dL_law_939 : decode cL_law 939 = .ok (.iadd, 1) := by decide +kernel
theorem dL_law_940 : decode cL_law 940 = .ok (.iaload, 1) := by decide +kernel
theorem dL_law_941 : decode cL_law 941 = .ok (.aload 4, 2) := by decide +kernel
theorem dL_law_943 : decode cL_law 943 = .ok (.invokestatic 198, 3) := by decide +kernel
theorem dL_law_946 : decode cL_law 946 = .ok (.istore 6, 2) := by decide +kernel
theorem dL_law_948 : decode cL_law 948 = .ok (.aload_n 2, 1) := by decide +kernel
theorem dL_law_949 : decode cL_law 949 = .ok (.aload_n 0, 1) := by decide +kernel
theorem dL_law_950 : decode cL_law 950 = .ok (.iload 5, 2) := by decide +kernel
theorem dL_law_952 : decode cL_law 952 = .ok (.iconst 1, 1) := by decide +kernel
theorem dL_law_953 : decode cL_law 953 = .ok (.iadd, 1) := by decide +kernel
theorem dL_law_954 : decode cL_law 954 = .ok (.iaload, 1) := by decide +kernel
theorem dL_law_955 : decode cL_law 955 = .ok (.invokevirtual 200, 3) := by decide +kernel
theorem dL_law_958 : decode cL_law 958 = .ok (.fstore 7, 2) := by decide +kernel
theorem dL_law_960 : decode cL_law 960 = .ok (.aload_n 2, 1) := by decide +kernel
theorem dL_law_961 : decode cL_law 961 = .ok (.invokevirtual 166, 3) := by decide +kernel
theorem dL_law_964 : decode cL_law 964 = .ok (.iload 6, 2) := by decide +kernel
theorem dL_law_966 : decode cL_law 966 = .ok (.if_icmp .eq 5, 3) := by decide +kernel
theorem dL_law_969 : decode cL_law 969 = .ok (.iconst 0, 1) := by decide +kernel
theorem dL_law_970 : decode cL_law 970 = .ok (.ireturn, 1) := by decide +kernel
theorem dL_law_971 : decode cL_law 971 = .ok (.iload 6, 2) := by decide +kernel
theorem dL_law_973 : decode cL_law 973 = .ok (.ifCond .ne 36, 3) := by decide +kernel
theorem dL_law_976 : decode cL_law 976 = .ok (.aload 4, 2) := by decide +kernel
theorem dL_law_978 : decode cL_law 978 = .ok (.iconst 0, 1) := by decide +kernel
theorem dL_law_979 : decode cL_law 979 = .ok (.daload, 1) := by decide +kernel
theorem dL_law_980 : decode cL_law 980 = .ok (.fload 7, 2) := by decide +kernel
theorem dL_law_982 : decode cL_law 982 = .ok (.f2d, 1) := by decide +kernel
theorem dL_law_983 : decode cL_law 983 = .ok (.dcmp .l, 1) := by decide +kernel
theorem dL_law_984 : decode cL_law 984 = .ok (.ifCond .eq 25, 3) := by decide +kernel
theorem dL_law_987 : decode cL_law 987 = .ok (.aload 4, 2) := by decide +kernel
theorem dL_law_989 : decode cL_law 989 = .ok (.iconst 0, 1) := by decide +kernel
theorem dL_law_990 : decode cL_law 990 = .ok (.daload, 1) := by decide +kernel
theorem dL_law_991 : decode cL_law 991 = .ok (.aload 4, 2) := by decide +kernel
theorem dL_law_993 : decode cL_law 993 = .ok (.iconst 0, 1) := by decide +kernel
theorem dL_law_994 : decode cL_law 994 = .ok (.daload, 1) := by decide +kernel
theorem dL_law_995 : decode cL_law 995 = .ok (.dcmp .l, 1) := by decide +kernel
theorem dL_law_996 : decode cL_law 996 = .ok (.ifCond .eq 11, 3) := by decide +kernel
theorem dL_law_999 : decode cL_law 999 = .ok (.fload 7, 2) := by decide +kernel
theorem dL_law_1001 : decode cL_law 1001 = .ok (.fload 7, 2) := by decide +kernel
theorem dL_law_1003 : decode cL_law 1003 = .ok (.fcmp .l, 1) := by decide +kernel
theorem dL_law_1004 : decode cL_law 1004 = .ok (.ifCond .ne 5, 3) := by decide +kernel
theorem dL_law_1007 : decode cL_law 1007 = .ok (.iconst 0, 1) := by decide +kernel
theorem dL_law_1008 : decode cL_law 1008 = .ok (.ireturn, 1) := by decide +kernel
theorem dL_law_1009 : decode cL_law 1009 = .ok (.goto 2511, 3) := by decide +kernel
theorem dL_law_1012 : decode cL_law 1012 = .ok (.aload_n 1, 1) := by decide +kernel
theorem dL_law_1013 : decode cL_law 1013 = .ok (.aload_n 0, 1) := by decide +kernel
theorem dL_law_1014 : decode cL_law 1014 = .ok (.iload 5, 2) := by decide +kernel
theorem dL_law_1016 : decode cL_law 1016 = .ok (.iconst 1, 1) := by decide +kernel
theorem dL_law_1017 : decode cL_law 1017 = .ok (.iadd, 1) := by decide +kernel
theorem dL_law_1018 : decode cL_law 1018 = .ok (.iaload, 1) := by decide +kernel
theorem dL_law_1019 : decode cL_law 1019 = .ok (.ifCond .eq 7, 3) := by decide +kernel
theorem dL_law_1022 : decode cL_law 1022 = .ok (.iconst 1, 1) := by decide +kernel
theorem dL_law_1023 : decode cL_law 1023 = .ok (.goto 4, 3) := by decide +kernel
theorem dL_law_1026 : decode cL_law 1026 = .ok (.iconst 0, 1) := by decide +kernel
theorem dL_law_1027 : decode cL_law 1027 = .ok (.invokevirtual 201, 3) := by decide +kernel
theorem dL_law_1030 : decode cL_law 1030 = .ok (.aload_n 2, 1) := by decide +kernel
theorem dL_law_1031 : decode cL_law 1031 = .ok (.aload_n 0, 1) := by decide +kernel
theorem dL_law_1032 : decode cL_law 1032 = .ok (.iload 5, 2) := by decide +kernel
theorem dL_law_1034 : decode cL_law 1034 = .ok (.iconst 1, 1) := by decide +kernel
theorem dL_law_1035 : decode cL_law 1035 = .ok (.iadd, 1) := by decide +kernel
theorem dL_law_1036 : decode cL_law 1036 = .ok (.iaload, 1) := by decide +kernel
theorem dL_law_1037 : decode cL_law 1037 = .ok (.ifCond .eq 7, 3) := by decide +kernel
theorem dL_law_1040 : decode cL_law 1040 = .ok (.iconst 1, 1) := by decide +kernel
theorem dL_law_1041 : decode cL_law 1041 = .ok (.goto 4, 3) := by decide +kernel
theorem dL_law_1044 : decode cL_law 1044 = .ok (.iconst 0, 1) := by decide +kernel
theorem dL_law_1045 : decode cL_law 1045 = .ok (.invokevirtual 205, 3) := by decide +kernel
theorem dL_law_1048 : decode cL_law 1048 = .ok (.if_icmp .eq 2472, 3) := by decide +kernel
theorem dL_law_1051 : decode cL_law 1051 = .ok (.iconst 0, 1) := by decide +kernel
theorem dL_law_1052 : decode cL_law 1052 = .ok (.ireturn, 1) := by decide +kernel
theorem dL_law_1053 : decode cL_law 1053 = .ok (.aload_n 1, 1) := by decide +kernel
theorem dL_law_1054 : decode cL_law 1054 = .ok (.aload_n 0, 1) := by decide +kernel
theorem dL_law_1055 : decode cL_law 1055 = .ok (.iload 5, 2) := by decide +kernel
theorem dL_law_1057 : decode cL_law 1057 = .ok (.iconst 1, 1) := by decide +kernel
theorem dL_law_1058 : decode cL_law 1058 = .ok (.iadd, 1) := by decide +kernel
theorem dL_law_1059 : decode cL_law 1059 = .ok (.iaload, 1) := by decide +kernel
theorem dL_law_1060 : decode cL_law 1060 = .ok (.aload_n 3, 1) := by decide +kernel
theorem dL_law_1061 : decode cL_law 1061 = .ok (.invokestatic 206, 3) := by decide +kernel
theorem dL_law_1064 : decode cL_law 1064 = .ok (.istore 6, 2) := by decide +kernel
theorem dL_law_1066 : decode cL_law 1066 = .ok (.aload_n 2, 1) := by decide +kernel
theorem dL_law_1067 : decode cL_law 1067 = .ok (.aload_n 0, 1) := by decide +kernel
theorem dL_law_1068 : decode cL_law 1068 = .ok (.iload 5, 2) := by decide +kernel
theorem dL_law_1070 : decode cL_law 1070 = .ok (.iconst 1, 1) := by decide +kernel
theorem dL_law_1071 : decode cL_law 1071 = .ok (.iadd, 1) := by decide +kernel
theorem dL_law_1072 : decode cL_law 1072 = .ok (.iaload, 1) := by decide +kernel
theorem dL_law_1073 : decode cL_law 1073 = .ok (.invokevirtual 208, 3) := by decide +kernel
theorem dL_law_1076 : decode cL_law 1076 = .ok (.istore 7, 2) := by decide +kernel
theorem dL_law_1078 : decode cL_law 1078 = .ok (.aload_n 2, 1) := by decide +kernel
theorem dL_law_1079 : decode cL_law 1079 = .ok (.invokevirtual 166, 3) := by decide +kernel
theorem dL_law_1082 : decode cL_law 1082 = .ok (.iload 6, 2) := by decide +kernel
theorem dL_law_1084 : decode cL_law 1084 = .ok (.if_icmp .eq 5, 3) := by decide +kernel
theorem dL_law_1087 : decode cL_law 1087 = .ok (.iconst 0, 1) := by decide +kernel
theorem dL_law_1088 : decode cL_law 1088 = .ok (.ireturn, 1) := by decide +kernel
theorem dL_law_1089 : decode cL_law 1089 = .ok (.iload 6, 2) := by decide +kernel
theorem dL_law_1091 : decode cL_law 1091 = .ok (.ifCond .ne 15, 3) := by decide +kernel
theorem dL_law_1094 : decode cL_law 1094 = .ok (.aload_n 3, 1) := by decide +kernel
theorem dL_law_1095 : decode cL_law 1095 = .ok (.iconst 0, 1) := by decide +kernel
theorem dL_law_1096 : decode cL_law 1096 = .ok (.laload, 1) := by decide +kernel
theorem dL_law_1097 : decode cL_law 1097 = .ok (.iload 7, 2) := by decide +kernel
theorem dL_law_1099 : decode cL_law 1099 = .ok (.i2l, 1) := by decide +kernel
theorem dL_law_1100 : decode cL_law 1100 = .ok (.lcmp, 1) := by decide +kernel
theorem dL_law_1101 : decode cL_law 1101 = .ok (.ifCond .eq 5, 3) := by decide +kernel
theorem dL_law_1104 : decode cL_law 1104 = .ok (.iconst 0, 1) := by decide +kernel
theorem dL_law_1105 : decode cL_law 1105 = .ok (.ireturn, 1) := by decide +kernel
theorem dL_law_1106 : decode cL_law 1106 = .ok (.goto 2414, 3) := by decide +kernel
theorem dL_law_1109 : decode cL_law 1109 = .ok (.aload_n 1, 1) := by decide +kernel
theorem dL_law_1110 : decode cL_law 1110 = .ok (.aload 4, 2) := by decide +kernel
theorem dL_law_1112 : decode cL_law 1112 = .ok (.invokestatic 209, 3) := by decide +kernel
theorem dL_law_1115 : decode cL_law 1115 = .ok (.istore 6, 2) := by decide +kernel
theorem dL_law_1117 : decode cL_law 1117 = .ok (.aload_n 2, 1) := by decide +kernel
theorem dL_law_1118 : decode cL_law 1118 = .ok (.invokevirtual 212, 3) := by decide +kernel
theorem dL_law_1121 : decode cL_law 1121 = .ok (.fstore 7, 2) := by decide +kernel
theorem dL_law_1123 : decode cL_law 1123 = .ok (.aload_n 2, 1) := by decide +kernel
theorem dL_law_1124 : decode cL_law 1124 = .ok (.invokevirtual 166, 3) := by decide +kernel
theorem dL_law_1127 : decode cL_law 1127 = .ok (.iload 6, 2) := by decide +kernel
theorem dL_law_1129 : decode cL_law 1129 = .ok (.if_icmp .eq 5, 3) := by decide +kernel
theorem dL_law_1132 : decode cL_law 1132 = .ok (.iconst 0, 1) := by decide +kernel
theorem dL_law_1133 : decode cL_law 1133 = .ok (.ireturn, 1) := by decide +kernel
theorem dL_law_1134 : decode cL_law 1134 = .ok (.iload 6, 2) := by decide +kernel
theorem dL_law_1136 : decode cL_law 1136 = .ok (.ifCond .ne 36, 3) := by decide +kernel
theorem dL_law_1139 : decode cL_law 1139 = .ok (.aload 4, 2) := by decide +kernel
theorem dL_law_1141 : decode cL_law 1141 = .ok (.iconst 0, 1) := by decide +kernel
theorem dL_law_1142 : decode cL_law 1142 = .ok (.daload, 1) := by decide +kernel
theorem dL_law_1143 : decode cL_law 1143 = .ok (.fload 7, 2) := by decide +kernel
theorem dL_law_1145 : decode cL_law 1145 = .ok (.f2d, 1) := by decide +kernel
theorem dL_law_1146 : decode cL_law 1146 = .ok (.dcmp .l, 1) := by decide +kernel
theorem dL_law_1147 : decode cL_law 1147 = .ok (.ifCond .eq 25, 3) := by decide +kernel
theorem dL_law_1150 : decode cL_law 1150 = .ok (.aload 4, 2) := by decide +kernel
theorem dL_law_1152 : decode cL_law 1152 = .ok (.iconst 0, 1) := by decide +kernel
theorem dL_law_1153 : decode cL_law 1153 = .ok (.daload, 1) := by decide +kernel
theorem dL_law_1154 : decode cL_law 1154 = .ok (.aload 4, 2) := by decide +kernel
theorem dL_law_1156 : decode cL_law 1156 = .ok (.iconst 0, 1) := by decide +kernel
theorem dL_law_1157 : decode cL_law 1157 = .ok (.daload, 1) := by decide +kernel
theorem dL_law_1158 : decode cL_law 1158 = .ok (.dcmp .l, 1) := by decide +kernel
theorem dL_law_1159 : decode cL_law 1159 = .ok (.ifCond .eq 11, 3) := by decide +kernel
theorem dL_law_1162 : decode cL_law 1162 = .ok (.fload 7, 2) := by decide +kernel
theorem dL_law_1164 : decode cL_law 1164 = .ok (.fload 7, 2) := by decide +kernel
theorem dL_law_1166 : decode cL_law 1166 = .ok (.fcmp .l, 1) := by decide +kernel
theorem dL_law_1167 : decode cL_law 1167 = .ok (.ifCond .ne 5, 3) := by decide +kernel
theorem dL_law_1170 : decode cL_law 1170 = .ok (.iconst 0, 1) := by decide +kernel
theorem dL_law_1171 : decode cL_law 1171 = .ok (.ireturn, 1) := by decide +kernel
theorem dL_law_1172 : decode cL_law 1172 = .ok (.goto 2348, 3) := by decide +kernel
theorem dL_law_1175 : decode cL_law 1175 = .ok (.aload_n 1, 1) := by decide +kernel
theorem dL_law_1176 : decode cL_law 1176 = .ok (.invokevirtual 213, 3) := by decide +kernel
theorem dL_law_1179 : decode cL_law 1179 = .ok (.aload_n 2, 1) := by decide +kernel
theorem dL_law_1180 : decode cL_law 1180 = .ok (.invokevirtual 216, 3) := by decide +kernel
theorem dL_law_1183 : decode cL_law 1183 = .ok (.if_icmp .eq 2337, 3) := by decide +kernel
theorem dL_law_1186 : decode cL_law 1186 = .ok (.iconst 0, 1) := by decide +kernel
theorem dL_law_1187 : decode cL_law 1187 = .ok (.ireturn, 1) := by decide +kernel
theorem dL_law_1188 : decode cL_law 1188 = .ok (.aload_n 1, 1) := by decide +kernel
theorem dL_law_1189 : decode cL_law 1189 = .ok (.aload_n 0, 1) := by decide +kernel
theorem dL_law_1190 : decode cL_law 1190 = .ok (.iload 5, 2) := by decide +kernel
theorem dL_law_1192 : decode cL_law 1192 = .ok (.iconst 1, 1) := by decide +kernel
theorem dL_law_1193 : decode cL_law 1193 = .ok (.iadd, 1) := by decide +kernel
theorem dL_law_1194 : decode cL_law 1194 = .ok (.iaload, 1) := by decide +kernel
theorem dL_law_1195 : decode cL_law 1195 = .ok (.aload 4, 2) := by decide +kernel
theorem dL_law_1197 : decode cL_law 1197 = .ok (.invokestatic 217, 3) := by decide +kernel
theorem dL_law_1200 : decode cL_law 1200 = .ok (.istore 6, 2) := by decide +kernel
theorem dL_law_1202 : decode cL_law 1202 = .ok (.aload_n 2, 1) := by decide +kernel
theorem dL_law_1203 : decode cL_law 1203 = .ok (.aload_n 0, 1) := by decide +kernel
theorem dL_law_1204 : decode cL_law 1204 = .ok (.iload 5, 2) := by decide +kernel
theorem dL_law_1206 : decode cL_law 1206 = .ok (.iconst 1, 1) := by decide +kernel
theorem dL_law_1207 : decode cL_law 1207 = .ok (.iadd, 1) := by decide +kernel
theorem dL_law_1208 : decode cL_law 1208 = .ok (.iaload, 1) := by decide +kernel
theorem dL_law_1209 : decode cL_law 1209 = .ok (.invokevirtual 219, 3) := by decide +kernel
theorem dL_law_1212 : decode cL_law 1212 = .ok (.fstore 7, 2) := by decide +kernel
theorem dL_law_1214 : decode cL_law 1214 = .ok (.aload_n 2, 1) := by decide +kernel
theorem dL_law_1215 : decode cL_law 1215 = .ok (.invokevirtual 166, 3) := by decide +kernel
theorem dL_law_1218 : decode cL_law 1218 = .ok (.iload 6, 2) := by decide +kernel
theorem dL_law_1220 : decode cL_law 1220 = .ok (.if_icmp .eq 5, 3) := by decide +kernel
theorem dL_law_1223 : decode cL_law 1223 = .ok (.iconst 0, 1) := by decide +kernel
theorem dL_law_1224 : decode cL_law 1224 = .ok (.ireturn, 1) := by decide +kernel
theorem dL_law_1225 : decode cL_law 1225 = .ok (.iload 6, 2) := by decide +kernel
theorem dL_law_1227 : decode cL_law 1227 = .ok (.ifCond .ne 36, 3) := by decide +kernel
theorem dL_law_1230 : decode cL_law 1230 = .ok (.aload 4, 2) := by decide +kernel
theorem dL_law_1232 : decode cL_law 1232 = .ok (.iconst 0, 1) := by decide +kernel
theorem dL_law_1233 : decode cL_law 1233 = .ok (.daload, 1) := by decide +kernel
theorem dL_law_1234 : decode cL_law 1234 = .ok (.fload 7, 2) := by decide +kernel
theorem dL_law_1236 : decode cL_law 1236 = .ok (.f2d, 1) := by decide +kernel
theorem dL_law_1237 : decode cL_law 1237 = .ok (.dcmp .l, 1) := by decide +kernel
theorem dL_law_1238 : decode cL_law 1238 = .ok (.ifCond .eq 25, 3) := by decide +kernel
theorem dL_law_1241 : decode cL_law 1241 = .ok (.aload 4, 2) := by decide +kernel
theorem dL_law_1243 : decode cL_law 1243 = .ok (.iconst 0, 1) := by decide +kernel
theorem dL_law_1244 : decode cL_law 1244 = .ok (.daload, 1) := by decide +kernel
theorem dL_law_1245 : decode cL_law 1245 = .ok (.aload 4, 2) := by decide +kernel
theorem dL_law_1247 : decode cL_law 1247 = .ok (.iconst 0, 1) := by decide +kernel
theorem dL_law_1248 : decode cL_law 1248 = .ok (.daload, 1) := by decide +kernel
theorem dL_law_1249 : decode cL_law 1249 = .ok (.dcmp .l, 1) := by decide +kernel
theorem dL_law_1250 : decode cL_law 1250 = .ok (.ifCond .eq 11, 3) := by decide +kernel
theorem dL_law_1253 : decode cL_law 1253 = .ok (.fload 7, 2) := by decide +kernel
theorem dL_law_1255 : decode cL_law 1255 = .ok (.fload 7, 2) := by decide +kernel
theorem dL_law_1257 : decode cL_law 1257 = .ok (.fcmp .l, 1) := by decide +kernel
theorem dL_law_1258 : decode cL_law 1258 = .ok (.ifCond .ne 5, 3) := by decide +kernel
theorem dL_law_1261 : decode cL_law 1261 = .ok (.iconst 0, 1) := by decide +kernel
theorem dL_law_1262 : decode cL_law 1262 = .ok (.ireturn, 1) := by decide +kernel
theorem dL_law_1263 : decode cL_law 1263 = .ok (.goto 2257, 3) := by decide +kernel
theorem dL_law_1266 : decode cL_law 1266 = .ok (.aload_n 1, 1) := by decide +kernel
theorem dL_law_1267 : decode cL_law 1267 = .ok (.aload_n 0, 1) := by decide +kernel
theorem dL_law_1268 : decode cL_law 1268 = .ok (.iload 5, 2) := by decide +kernel
theorem dL_law_1270 : decode cL_law 1270 = .ok (.iconst 1, 1) := by decide +kernel
theorem dL_law_1271 : decode cL_law 1271 = .ok (.iadd, 1) := by decide +kernel
theorem dL_law_1272 : decode cL_law 1272 = .ok (.iaload, 1) := by decide +kernel
theorem dL_law_1273 : decode cL_law 1273 = .ok (.aload 4, 2) := by decide +kernel
theorem dL_law_1275 : decode cL_law 1275 = .ok (.invokestatic 220, 3) := by decide +kernel
theorem dL_law_1278 : decode cL_law 1278 = .ok (.istore 6, 2) := by decide +kernel
theorem dL_law_1280 : decode cL_law 1280 = .ok (.aload_n 2, 1) := by decide +kernel
theorem dL_law_1281 : decode cL_law 1281 = .ok (.aload_n 0, 1) := by decide +kernel
theorem dL_law_1282 : decode cL_law 1282 = .ok (.iload 5, 2) := by decide +kernel
theorem dL_law_1284 : decode cL_law 1284 = .ok (.iconst 1, 1) := by decide +kernel
theorem dL_law_1285 : decode cL_law 1285 = .ok (.iadd, 1) := by decide +kernel
theorem dL_law_1286 : decode cL_law 1286 = .ok (.iaload, 1) := by decide +kernel
theorem dL_law_1287 : decode cL_law 1287 = .ok (.invokevirtual 222, 3) := by decide +kernel
theorem dL_law_1290 : decode cL_law 1290 = .ok (.fstore 7, 2) := by decide +kernel
theorem dL_law_1292 : decode cL_law 1292 = .ok (.aload_n 2, 1) := by decide +kernel
theorem dL_law_1293 : decode cL_law 1293 = .ok (.invokevirtual 166, 3) := by decide +kernel
theorem dL_law_1296 : decode cL_law 1296 = .ok (.iload 6, 2) := by decide +kernel
theorem dL_law_1298 : decode cL_law 1298 = .ok (.if_icmp .eq 5, 3) := by decide +kernel
theorem dL_law_1301 : decode cL_law 1301 = .ok (.iconst 0, 1) := by decide +kernel
theorem dL_law_1302 : decode cL_law 1302 = .ok (.ireturn, 1) := by decide +kernel
theorem dL_law_1303 : decode cL_law 1303 = .ok (.iload 6, 2) := by decide +kernel
theorem dL_law_1305 : decode cL_law 1305 = .ok (.ifCond .ne 36, 3) := by decide +kernel
theorem dL_law_1308 : decode cL_law 1308 = .ok (.aload 4, 2) := by decide +kernel
theorem dL_law_1310 : decode cL_law 1310 = .ok (.iconst 0, 1) := by decide +kernel
theorem dL_law_1311 : decode cL_law 1311 = .ok (.daload, 1) := by decide +kernel
theorem dL_law_1312 : decode cL_law 1312 = .ok (.fload 7, 2) := by decide +kernel
theorem dL_law_1314 : decode cL_law 1314 = .ok (.f2d, 1) := by decide +kernel
theorem dL_law_1315 : decode cL_law 1315 = .ok (.dcmp .l, 1) := by decide +kernel
theorem dL_law_1316 : decode cL_law 1316 = .ok (.ifCond .eq 25, 3) := by decide +kernel
theorem dL_law_1319 : decode cL_law 1319 = .ok (.aload 4, 2) := by decide +kernel
theorem dL_law_1321 : decode cL_law 1321 = .ok (.iconst 0, 1) := by decide +kernel
theorem dL_law_1322 : decode cL_law 1322 = .ok (.daload, 1) := by decide +kernel
theorem dL_law_1323 : decode cL_law 1323 = .ok (.aload 4, 2) := by decide +kernel
theorem dL_law_1325 : decode cL_law 1325 = .ok (.iconst 0, 1) := by decide +kernel
theorem dL_law_1326 : decode cL_law 1326 = .ok (.daload, 1) := by decide +kernel
theorem dL_law_1327 : decode cL_law 1327 = .ok (.dcmp .l, 1) := by decide +kernel
theorem dL_law_1328 : decode cL_law 1328 = .ok (.ifCond .eq 11, 3) := by decide +kernel
theorem dL_law_1331 : decode cL_law 1331 = .ok (.fload 7, 2) := by decide +kernel
theorem dL_law_1333 : decode cL_law 1333 = .ok (.fload 7, 2) := by decide +kernel
theorem dL_law_1335 : decode cL_law 1335 = .ok (.fcmp .l, 1) := by decide +kernel
theorem dL_law_1336 : decode cL_law 1336 = .ok (.ifCond .ne 5, 3) := by decide +kernel
theorem dL_law_1339 : decode cL_law 1339 = .ok (.iconst 0, 1) := by decide +kernel
theorem dL_law_1340 : decode cL_law 1340 = .ok (.ireturn, 1) := by decide +kernel
theorem dL_law_1341 : decode cL_law 1341 = .ok (.goto 2179, 3) := by decide +kernel
theorem dL_law_1344 : decode cL_law 1344 = .ok (.aload_n 1, 1) := by decide +kernel
theorem dL_law_1345 : decode cL_law 1345 = .ok (.aload_n 0, 1) := by decide +kernel
theorem dL_law_1346 : decode cL_law 1346 = .ok (.iload 5, 2) := by decide +kernel
theorem dL_law_1348 : decode cL_law 1348 = .ok (.iconst 1, 1) := by decide +kernel
theorem dL_law_1349 : decode cL_law 1349 = .ok (.iadd, 1) := by decide +kernel
theorem dL_law_1350 : decode cL_law 1350 = .ok (.iaload, 1) := by decide +kernel
theorem dL_law_1351 : decode cL_law 1351 = .ok (.aload 4, 2) := by decide +kernel
theorem dL_law_1353 : decode cL_law 1353 = .ok (.invokestatic 223, 3) := by decide +kernel
theorem dL_law_1356 : decode cL_law 1356 = .ok (.istore 6, 2) := by decide +kernel
theorem dL_law_1358 : decode cL_law 1358 = .ok (.aload_n 2, 1) := by decide +kernel
theorem dL_law_1359 : decode cL_law 1359 = .ok (.aload_n 0, 1) := by decide +kernel
theorem dL_law_1360 : decode cL_law 1360 = .ok (.iload 5, 2) := by decide +kernel
theorem dL_law_1362 : decode cL_law 1362 = .ok (.iconst 1, 1) := by decide +kernel
theorem dL_law_1363 : decode cL_law 1363 = .ok (.iadd, 1) := by decide +kernel
theorem dL_law_1364 : decode cL_law 1364 = .ok (.iaload, 1) := by decide +kernel
theorem dL_law_1365 : decode cL_law 1365 = .ok (.invokevirtual 225, 3) := by decide +kernel
theorem dL_law_1368 : decode cL_law 1368 = .ok (.fstore 7, 2) := by decide +kernel
theorem dL_law_1370 : decode cL_law 1370 = .ok (.aload_n 2, 1) := by decide +kernel
theorem dL_law_1371 : decode cL_law 1371 = .ok (.invokevirtual 166, 3) := by decide +kernel
theorem dL_law_1374 : decode cL_law 1374 = .ok (.iload 6, 2) := by decide +kernel
theorem dL_law_1376 : decode cL_law 1376 = .ok (.if_icmp .eq 5, 3) := by decide +kernel
theorem dL_law_1379 : decode cL_law 1379 = .ok (.iconst 0, 1) := by decide +kernel
theorem dL_law_1380 : decode cL_law 1380 = .ok (.ireturn, 1) := by decide +kernel
theorem dL_law_1381 : decode cL_law 1381 = .ok (.iload 6, 2) := by decide +kernel
theorem dL_law_1383 : decode cL_law 1383 = .ok (.ifCond .ne 36, 3) := by decide +kernel
theorem dL_law_1386 : decode cL_law 1386 = .ok (.aload 4, 2) := by decide +kernel
theorem dL_law_1388 : decode cL_law 1388 = .ok (.iconst 0, 1) := by decide +kernel
theorem dL_law_1389 : decode cL_law 1389 = .ok (.daload, 1) := by decide +kernel
theorem dL_law_1390 : decode cL_law 1390 = .ok (.fload 7, 2) := by decide +kernel
theorem dL_law_1392 : decode cL_law 1392 = .ok (.f2d, 1) := by decide +kernel
theorem dL_law_1393 : decode cL_law 1393 = .ok (.dcmp .l, 1) := by decide +kernel
theorem dL_law_1394 : decode cL_law 1394 = .ok (.ifCond .eq 25, 3) := by decide +kernel
theorem dL_law_1397 : decode cL_law 1397 = .ok (.aload 4, 2) := by decide +kernel
theorem dL_law_1399 : decode cL_law 1399 = .ok (.iconst 0, 1) := by decide +kernel
theorem dL_law_1400 : decode cL_law 1400 = .ok (.daload, 1) := by decide +kernel
theorem dL_law_1401 : decode cL_law 1401 = .ok (.aload 4, 2) := by decide +kernel
theorem dL_law_1403 : decode cL_law 1403 = .ok (.iconst 0, 1) := by decide +kernel
theorem dL_law_1404 : decode cL_law 1404 = .ok (.daload, 1) := by decide +kernel
theorem dL_law_1405 : decode cL_law 1405 = .ok (.dcmp .l, 1) := by decide +kernel
theorem dL_law_1406 : decode cL_law 1406 = .ok (.ifCond .eq 11, 3) := by decide +kernel
theorem dL_law_1409 : decode cL_law 1409 = .ok (.fload 7, 2) := by decide +kernel
theorem dL_law_1411 : decode cL_law 1411 = .ok (.fload 7, 2) := by decide +kernel
theorem dL_law_1413 : decode cL_law 1413 = .ok (.fcmp .l, 1) := by decide +kernel
theorem dL_law_1414 : decode cL_law 1414 = .ok (.ifCond .ne 5, 3) := by decide +kernel
theorem dL_law_1417 : decode cL_law 1417 = .ok (.iconst 0, 1) := by decide +kernel
theorem dL_law_1418 : decode cL_law 1418 = .ok (.ireturn, 1) := by decide +kernel
theorem dL_law_1419 : decode cL_law 1419 = .ok (.goto 2101, 3) := by decide +kernel
theorem dL_law_1422 : decode cL_law 1422 = .ok (.aload_n 1, 1) := by decide +kernel
theorem dL_law_1423 : decode cL_law 1423 = .ok (.aload_n 0, 1) := by decide +kernel
theorem dL_law_1424 : decode cL_law 1424 = .ok (.iload 5, 2) := by decide +kernel
theorem dL_law_1426 : decode cL_law 1426 = .ok (.iconst 1, 1) := by decide +kernel
theorem dL_law_1427 : decode cL_law 1427 = .ok (.iadd, 1) := by decide +kernel
theorem dL_law_1428 : decode cL_law 1428 = .ok (.iaload, 1) := by decide +kernel
theorem dL_law_1429 : decode cL_law 1429 = .ok (.aload_n 3, 1) := by decide +kernel
theorem dL_law_1430 : decode cL_law 1430 = .ok (.invokestatic 226, 3) := by decide +kernel
theorem dL_law_1433 : decode cL_law 1433 = .ok (.istore 6, 2) := by decide +kernel
theorem dL_law_1435 : decode cL_law 1435 = .ok (.aload_n 2, 1) := by decide +kernel
theorem dL_law_1436 : decode cL_law 1436 = .ok (.aload_n 0, 1) := by decide +kernel
theorem dL_law_1437 : decode cL_law 1437 = .ok (.iload 5, 2) := by decide +kernel
theorem dL_law_1439 : decode cL_law 1439 = .ok (.iconst 1, 1) := by decide +kernel
theorem dL_law_1440 : decode cL_law 1440 = .ok (.iadd, 1) := by decide +kernel
theorem dL_law_1441 : decode cL_law 1441 = .ok (.iaload, 1) := by decide +kernel
theorem dL_law_1442 : decode cL_law 1442 = .ok (.invokevirtual 228, 3) := by decide +kernel
theorem dL_law_1445 : decode cL_law 1445 = .ok (.istore 7, 2) := by decide +kernel
theorem dL_law_1447 : decode cL_law 1447 = .ok (.aload_n 2, 1) := by decide +kernel
theorem dL_law_1448 : decode cL_law 1448 = .ok (.invokevirtual 166, 3) := by decide +kernel
theorem dL_law_1451 : decode cL_law 1451 = .ok (.iload 6, 2) := by decide +kernel
theorem dL_law_1453 : decode cL_law 1453 = .ok (.if_icmp .eq 5, 3) := by decide +kernel
theorem dL_law_1456 : decode cL_law 1456 = .ok (.iconst 0, 1) := by decide +kernel
theorem dL_law_1457 : decode cL_law 1457 = .ok (.ireturn, 1) := by decide +kernel
theorem dL_law_1458 : decode cL_law 1458 = .ok (.iload 6, 2) := by decide +kernel
theorem dL_law_1460 : decode cL_law 1460 = .ok (.ifCond .ne 15, 3) := by decide +kernel
theorem dL_law_1463 : decode cL_law 1463 = .ok (.aload_n 3, 1) := by decide +kernel
theorem dL_law_1464 : decode cL_law 1464 = .ok (.iconst 0, 1) := by decide +kernel
theorem dL_law_1465 : decode cL_law 1465 = .ok (.laload, 1) := by decide +kernel
theorem dL_law_1466 : decode cL_law 1466 = .ok (.iload 7, 2) := by decide +kernel
theorem dL_law_1468 : decode cL_law 1468 = .ok (.i2l, 1) := by decide +kernel
theorem dL_law_1469 : decode cL_law 1469 = .ok (.lcmp, 1) := by decide +kernel
theorem dL_law_1470 : decode cL_law 1470 = .ok (.ifCond .eq 5, 3) := by decide +kernel
theorem dL_law_1473 : decode cL_law 1473 = .ok (.iconst 0, 1) := by decide +kernel
theorem dL_law_1474 : decode cL_law 1474 = .ok (.ireturn, 1) := by decide +kernel
theorem dL_law_1475 : decode cL_law 1475 = .ok (.goto 2045, 3) := by decide +kernel
theorem dL_law_1478 : decode cL_law 1478 = .ok (.aload_n 1, 1) := by decide +kernel
theorem dL_law_1479 : decode cL_law 1479 = .ok (.aload_n 0, 1) := by decide +kernel
theorem dL_law_1480 : decode cL_law 1480 = .ok (.iload 5, 2) := by decide +kernel
theorem dL_law_1482 : decode cL_law 1482 = .ok (.iconst 1, 1) := by decide +kernel
theorem dL_law_1483 : decode cL_law 1483 = .ok (.iadd, 1) := by decide +kernel
theorem dL_law_1484 : decode cL_law 1484 = .ok (.iaload, 1) := by decide +kernel
theorem dL_law_1485 : decode cL_law 1485 = .ok (.aload_n 3, 1) := by decide +kernel
theorem dL_law_1486 : decode cL_law 1486 = .ok (.invokestatic 229, 3) := by decide +kernel
theorem dL_law_1489 : decode cL_law 1489 = .ok (.istore 6, 2) := by decide +kernel
theorem dL_law_1491 : decode cL_law 1491 = .ok (.aload_n 2, 1) := by decide +kernel
theorem dL_law_1492 : decode cL_law 1492 = .ok (.aload_n 0, 1) := by decide +kernel
theorem dL_law_1493 : decode cL_law 1493 = .ok (.iload 5, 2) := by decide +kernel
theorem dL_law_1495 : decode cL_law 1495 = .ok (.iconst 1, 1) := by decide +kernel
theorem dL_law_1496 : decode cL_law 1496 = .ok (.iadd, 1) := by decide +kernel
theorem dL_law_1497 : decode cL_law 1497 = .ok (.iaload, 1) := by decide +kernel
theorem dL_law_1498 : decode cL_law 1498 = .ok (.invokevirtual 231, 3) := by decide +kernel
theorem dL_law_1501 : decode cL_law 1501 = .ok (.istore 7, 2) := by decide +kernel
theorem dL_law_1503 : decode cL_law 1503 = .ok (.aload_n 2, 1) := by decide +kernel
theorem dL_law_1504 : decode cL_law 1504 = .ok (.invokevirtual 166, 3) := by decide +kernel
theorem dL_law_1507 : decode cL_law 1507 = .ok (.iload 6, 2) := by decide +kernel
theorem dL_law_1509 : decode cL_law 1509 = .ok (.if_icmp .eq 5, 3) := by decide +kernel
theorem dL_law_1512 : decode cL_law 1512 = .ok (.iconst 0, 1) := by decide +kernel
theorem dL_law_1513 : decode cL_law 1513 = .ok (.ireturn, 1) := by decide +kernel
theorem dL_law_1514 : decode cL_law 1514 = .ok (.iload 6, 2) := by decide +kernel
theorem dL_law_1516 : decode cL_law 1516 = .ok (.ifCond .ne 15, 3) := by decide +kernel
theorem dL_law_1519 : decode cL_law 1519 = .ok (.aload_n 3, 1) := by decide +kernel
theorem dL_law_1520 : decode cL_law 1520 = .ok (.iconst 0, 1) := by decide +kernel
theorem dL_law_1521 : decode cL_law 1521 = .ok (.laload, 1) := by decide +kernel
theorem dL_law_1522 : decode cL_law 1522 = .ok (.iload 7, 2) := by decide +kernel
theorem dL_law_1524 : decode cL_law 1524 = .ok (.i2l, 1) := by decide +kernel
theorem dL_law_1525 : decode cL_law 1525 = .ok (.lcmp, 1) := by decide +kernel
theorem dL_law_1526 : decode cL_law 1526 = .ok (.ifCond .eq 5, 3) := by decide +kernel
theorem dL_law_1529 : decode cL_law 1529 = .ok (.iconst 0, 1) := by decide +kernel
theorem dL_law_1530 : decode cL_law 1530 = .ok (.ireturn, 1) := by decide +kernel
theorem dL_law_1531 : decode cL_law 1531 = .ok (.goto 1989, 3) := by decide +kernel
theorem dL_law_1534 : decode cL_law 1534 = .ok (.aload_n 1, 1) := by decide +kernel
theorem dL_law_1535 : decode cL_law 1535 = .ok (.aload_n 0, 1) := by decide +kernel
theorem dL_law_1536 : decode cL_law 1536 = .ok (.iload 5, 2) := by decide +kernel
theorem dL_law_1538 : decode cL_law 1538 = .ok (.iconst 1, 1) := by decide +kernel
theorem dL_law_1539 : decode cL_law 1539 = .ok (.iadd, 1) := by decide +kernel
theorem dL_law_1540 : decode cL_law 1540 = .ok (.iaload, 1) := by decide +kernel
theorem dL_law_1541 : decode cL_law 1541 = .ok (.aload_n 3, 1) := by decide +kernel
theorem dL_law_1542 : decode cL_law 1542 = .ok (.invokestatic 232, 3) := by decide +kernel
theorem dL_law_1545 : decode cL_law 1545 = .ok (.istore 6, 2) := by decide +kernel
theorem dL_law_1547 : decode cL_law 1547 = .ok (.aload_n 2, 1) := by decide +kernel
theorem dL_law_1548 : decode cL_law 1548 = .ok (.aload_n 0, 1) := by decide +kernel
theorem dL_law_1549 : decode cL_law 1549 = .ok (.iload 5, 2) := by decide +kernel
theorem dL_law_1551 : decode cL_law 1551 = .ok (.iconst 1, 1) := by decide +kernel
theorem dL_law_1552 : decode cL_law 1552 = .ok (.iadd, 1) := by decide +kernel
theorem dL_law_1553 : decode cL_law 1553 = .ok (.iaload, 1) := by decide +kernel
theorem dL_law_1554 : decode cL_law 1554 = .ok (.invokevirtual 234, 3) := by decide +kernel
theorem dL_law_1557 : decode cL_law 1557 = .ok (.istore 7, 2) := by decide +kernel
theorem dL_law_1559 : decode cL_law 1559 = .ok (.aload_n 2, 1) := by decide +kernel
theorem dL_law_1560 : decode cL_law 1560 = .ok (.invokevirtual 166, 3) := by decide +kernel
theorem dL_law_1563 : decode cL_law 1563 = .ok (.iload 6, 2) := by decide +kernel
theorem dL_law_1565 : decode cL_law 1565 = .ok (.if_icmp .eq 5, 3) := by decide +kernel
theorem dL_law_1568 : decode cL_law 1568 = .ok (.iconst 0, 1) := by decide +kernel
theorem dL_law_1569 : decode cL_law 1569 = .ok (.ireturn, 1) := by decide +kernel
theorem dL_law_1570 : decode cL_law 1570 = .ok (.iload 6, 2) := by decide +kernel
theorem dL_law_1572 : decode cL_law 1572 = .ok (.ifCond .ne 22, 3) := by decide +kernel
theorem dL_law_1575 : decode cL_law 1575 = .ok (.aload_n 3, 1) := by decide +kernel
theorem dL_law_1576 : decode cL_law 1576 = .ok (.iconst 0, 1) := by decide +kernel
theorem dL_law_1577 : decode cL_law 1577 = .ok (.laload, 1) := by decide +kernel
theorem dL_law_1578 : decode cL_law 1578 = .ok (.iload 7, 2) := by decide +kernel
theorem dL_law_1580 : decode cL_law 1580 = .ok (.ifCond .eq 7, 3) := by decide +kernel
theorem dL_law_1583 : decode cL_law 1583 = .ok (.lconst 1, 1) := by decide +kernel
theorem dL_law_1584 : decode cL_law 1584 = .ok (.goto 4, 3) := by decide +kernel
theorem dL_law_1587 : decode cL_law 1587 = .ok (.lconst 0, 1) := by decide +kernel
theorem dL_law_1588 : decode cL_law 1588 = .ok (.lcmp, 1) := by decide +kernel
theorem dL_law_1589 : decode cL_law 1589 = .ok (.ifCond .eq 5, 3) := by decide +kernel
theorem dL_law_1592 : decode cL_law 1592 = .ok (.iconst 0, 1) := by decide +kernel
theorem dL_law_1593 : decode cL_law 1593 = .ok (.ireturn, 1) := by decide +kernel
theorem dL_law_1594 : decode cL_law 1594 = .ok (.goto 1926, 3) := by decide +kernel
theorem dL_law_1597 : decode cL_law 1597 = .ok (.aload_n 1, 1) := by decide +kernel
theorem dL_law_1598 : decode cL_law 1598 = .ok (.aload_n 0, 1) := by decide +kernel
theorem dL_law_1599 : decode cL_law 1599 = .ok (.iload 5, 2) := by decide +kernel
theorem dL_law_1601 : decode cL_law 1601 = .ok (.iconst 1, 1) := by decide +kernel
theorem dL_law_1602 : decode cL_law 1602 = .ok (.iadd, 1) := by decide +kernel
theorem dL_law_1603 : decode cL_law 1603 = .ok (.iaload, 1) := by decide +kernel
theorem dL_law_1604 : decode cL_law 1604 = .ok (.aload_n 3, 1) := by decide +kernel
theorem dL_law_1605 : decode cL_law 1605 = .ok (.invokestatic 235, 3) := by decide +kernel
theorem dL_law_1608 : decode cL_law 1608 = .ok (.istore 6, 2) := by decide +kernel
theorem dL_law_1610 : decode cL_law 1610 = .ok (.aload_n 2, 1) := by decide +kernel
theorem dL_law_1611 : decode cL_law 1611 = .ok (.aload_n 0, 1) := by decide +kernel
theorem dL_law_1612 : decode cL_law 1612 = .ok (.iload 5, 2) := by decide +kernel
theorem dL_law_1614 : decode cL_law 1614 = .ok (.iconst 1, 1) := by decide +kernel
theorem dL_law_1615 : decode cL_law 1615 = .ok (.iadd, 1) := by decide +kernel
theorem dL_law_1616 : decode cL_law 1616 = .ok (.iaload, 1) := by decide +kernel
theorem dL_law_1617 : decode cL_law 1617 = .ok (.invokevirtual 237, 3) := by decide +kernel
theorem dL_law_1620 : decode cL_law 1620 = .ok (.istore 7, 2) := by decide +kernel
theorem dL_law_1622 : decode cL_law 1622 = .ok (.aload_n 2, 1) := by decide +kernel
theorem dL_law_1623 : decode cL_law 1623 = .ok (.invokevirtual 166, 3) := by decide +kernel
theorem dL_law_1626 : decode cL_law 1626 = .ok (.iload 6, 2) := by decide +kernel
theorem dL_law_1628 : decode cL_law 1628 = .ok (.if_icmp .eq 5, 3) := by decide +kernel
theorem dL_law_1631 : decode cL_law 1631 = .ok (.iconst 0, 1) := by decide +kernel
theorem dL_law_1632 : decode cL_law 1632 = .ok (.ireturn, 1) := by decide +kernel
theorem dL_law_1633 : decode cL_law 1633 = .ok (.iload 6, 2) := by decide +kernel
theorem dL_law_1635 : decode cL_law 1635 = .ok (.ifCond .ne 15, 3) := by decide +kernel
theorem dL_law_1638 : decode cL_law 1638 = .ok (.aload_n 3, 1) := by decide +kernel
theorem dL_law_1639 : decode cL_law 1639 = .ok (.iconst 0, 1) := by decide +kernel
theorem dL_law_1640 : decode cL_law 1640 = .ok (.laload, 1) := by decide +kernel
theorem dL_law_1641 : decode cL_law 1641 = .ok (.iload 7, 2) := by decide +kernel
theorem dL_law_1643 : decode cL_law 1643 = .ok (.i2l, 1) := by decide +kernel
theorem dL_law_1644 : decode cL_law 1644 = .ok (.lcmp, 1) := by decide +kernel
theorem dL_law_1645 : decode cL_law 1645 = .ok (.ifCond .eq 5, 3) := by decide +kernel
theorem dL_law_1648 : decode cL_law 1648 = .ok (.iconst 0, 1) := by decide +kernel
theorem dL_law_1649 : decode cL_law 1649 = .ok (.ireturn, 1) := by decide +kernel
theorem dL_law_1650 : decode cL_law 1650 = .ok (.goto 1870, 3) := by decide +kernel
theorem dL_law_1653 : decode cL_law 1653 = .ok (.aload_n 1, 1) := by decide +kernel
theorem dL_law_1654 : decode cL_law 1654 = .ok (.aload_n 0, 1) := by decide +kernel
theorem dL_law_1655 : decode cL_law 1655 = .ok (.iload 5, 2) := by decide +kernel
theorem dL_law_1657 : decode cL_law 1657 = .ok (.iconst 1, 1) := by decide +kernel
theorem dL_law_1658 : decode cL_law 1658 = .ok (.iadd, 1) := by decide +kernel
theorem dL_law_1659 : decode cL_law 1659 = .ok (.iaload, 1) := by decide +kernel
theorem dL_law_1660 : decode cL_law 1660 = .ok (.aload_n 3, 1) := by decide +kernel
theorem dL_law_1661 : decode cL_law 1661 = .ok (.invokestatic 238, 3) := by decide +kernel
theorem dL_law_1664 : decode cL_law 1664 = .ok (.istore 6, 2) := by decide +kernel
theorem dL_law_1666 : decode cL_law 1666 = .ok (.aload_n 2, 1) := by decide +kernel
theorem dL_law_1667 : decode cL_law 1667 = .ok (.aload_n 0, 1) := by decide +kernel
theorem dL_law_1668 : decode cL_law 1668 = .ok (.iload 5, 2) := by decide +kernel
theorem dL_law_1670 : decode cL_law 1670 = .ok (.iconst 1, 1) := by decide +kernel
theorem dL_law_1671 : decode cL_law 1671 = .ok (.iadd, 1) := by decide +kernel
theorem dL_law_1672 : decode cL_law 1672 = .ok (.iaload, 1) := by decide +kernel
theorem dL_law_1673 : decode cL_law 1673 = .ok (.invokevirtual 240, 3) := by decide +kernel
theorem dL_law_1676 : decode cL_law 1676 = .ok (.istore 7, 2) := by decide +kernel
theorem dL_law_1678 : decode cL_law 1678 = .ok (.aload_n 2, 1) := by decide +kernel
theorem dL_law_1679 : decode cL_law 1679 = .ok (.invokevirtual 166, 3) := by decide +kernel
theorem dL_law_1682 : decode cL_law 1682 = .ok (.iload 6, 2) := by decide +kernel
theorem dL_law_1684 : decode cL_law 1684 = .ok (.if_icmp .eq 5, 3) := by decide +kernel
theorem dL_law_1687 : decode cL_law 1687 = .ok (.iconst 0, 1) := by decide +kernel
theorem dL_law_1688 : decode cL_law 1688 = .ok (.ireturn, 1) := by decide +kernel
theorem dL_law_1689 : decode cL_law 1689 = .ok (.iload 6, 2) := by decide +kernel
theorem dL_law_1691 : decode cL_law 1691 = .ok (.ifCond .ne 15, 3) := by decide +kernel
theorem dL_law_1694 : decode cL_law 1694 = .ok (.aload_n 3, 1) := by decide +kernel
theorem dL_law_1695 : decode cL_law 1695 = .ok (.iconst 0, 1) := by decide +kernel
theorem dL_law_1696 : decode cL_law 1696 = .ok (.laload, 1) := by decide +kernel
theorem dL_law_1697 : decode cL_law 1697 = .ok (.iload 7, 2) := by decide +kernel
theorem dL_law_1699 : decode cL_law 1699 = .ok (.i2l, 1) := by decide +kernel
theorem dL_law_1700 : decode cL_law 1700 = .ok (.lcmp, 1) := by decide +kernel
theorem dL_law_1701 : decode cL_law 1701 = .ok (.ifCond .eq 5, 3) := by decide +kernel
theorem dL_law_1704 : decode cL_law 1704 = .ok (.iconst 0, 1) := by decide +kernel
theorem dL_law_1705 : decode cL_law 1705 = .ok (.ireturn, 1) := by decide +kernel
theorem dL_law_1706 : decode cL_law 1706 = .ok (.goto 1814, 3) := by decide +kernel
theorem dL_law_1709 : decode cL_law 1709 = .ok (.aload_n 1, 1) := by decide +kernel
theorem dL_law_1710 : decode cL_law 1710 = .ok (.aload_n 0, 1) := by decide +kernel
theorem dL_law_1711 : decode cL_law 1711 = .ok (.iload 5, 2) := by decide +kernel
theorem dL_law_1713 : decode cL_law 1713 = .ok (.iconst 1, 1) := by decide +kernel
theorem dL_law_1714 : decode cL_law 1714 = .ok (.iadd, 1) := by decide +kernel
theorem dL_law_1715 : decode cL_law 1715 = .ok (.iaload, 1) := by decide +kernel
theorem dL_law_1716 : decode cL_law 1716 = .ok (.aload_n 3, 1) := by decide +kernel
theorem dL_law_1717 : decode cL_law 1717 = .ok (.invokestatic 241, 3) := by decide +kernel
theorem dL_law_1720 : decode cL_law 1720 = .ok (.istore 6, 2) := by decide +kernel
theorem dL_law_1722 : decode cL_law 1722 = .ok (.aload_n 2, 1) := by decide +kernel
theorem dL_law_1723 : decode cL_law 1723 = .ok (.aload_n 0, 1) := by decide +kernel
theorem dL_law_1724 : decode cL_law 1724 = .ok (.iload 5, 2) := by decide +kernel
theorem dL_law_1726 : decode cL_law 1726 = .ok (.iconst 1, 1) := by decide +kernel
theorem dL_law_1727 : decode cL_law 1727 = .ok (.iadd, 1) := by decide +kernel
theorem dL_law_1728 : decode cL_law 1728 = .ok (.iaload, 1) := by decide +kernel
theorem dL_law_1729 : decode cL_law 1729 = .ok (.invokevirtual 243, 3) := by decide +kernel
theorem dL_law_1732 : decode cL_law 1732 = .ok (.istore 7, 2) := by decide +kernel
theorem dL_law_1734 : decode cL_law 1734 = .ok (.aload_n 2, 1) := by decide +kernel
theorem dL_law_1735 : decode cL_law 1735 = .ok (.invokevirtual 166, 3) := by decide +kernel
theorem dL_law_1738 : decode cL_law 1738 = .ok (.iload 6, 2) := by decide +kernel
theorem dL_law_1740 : decode cL_law 1740 = .ok (.if_icmp .eq 5, 3) := by decide +kernel
theorem dL_law_1743 : decode cL_law 1743 = .ok (.iconst 0, 1) := by decide +kernel
theorem dL_law_1744 : decode cL_law 1744 = .ok (.ireturn, 1) := by decide +kernel
theorem dL_law_1745 : decode cL_law 1745 = .ok (.iload 6, 2) := by decide +kernel
theorem dL_law_1747 : decode cL_law 1747 = .ok (.ifCond .ne 15, 3) := by decide +kernel
theorem dL_law_1750 : decode cL_law 1750 = .ok (.aload_n 3, 1) := by decide +kernel
theorem dL_law_1751 : decode cL_law 1751 = .ok (.iconst 0, 1) := by decide +kernel
theorem dL_law_1752 : decode cL_law 1752 = .ok (.laload, 1) := by decide +kernel
theorem dL_law_1753 : decode cL_law 1753 = .ok (.iload 7, 2) := by decide +kernel
theorem dL_law_1755 : decode cL_law 1755 = .ok (.i2l, 1) := by decide +kernel
theorem dL_law_1756 : decode cL_law 1756 = .ok (.lcmp, 1) := by decide +kernel
theorem dL_law_1757 : decode cL_law 1757 = .ok (.ifCond .eq 5, 3) := by decide +kernel
theorem dL_law_1760 : decode cL_law 1760 = .ok (.iconst 0, 1) := by decide +kernel
theorem dL_law_1761 : decode cL_law 1761 = .ok (.ireturn, 1) := by decide +kernel
theorem dL_law_1762 : decode cL_law 1762 = .ok (.goto 1758, 3) := by decide +kernel
theorem dL_law_1765 : decode cL_law 1765 = .ok (.aload_n 1, 1) := by decide +kernel
theorem dL_law_1766 : decode cL_law 1766 = .ok (.invokevirtual 244, 3) := by decide +kernel
theorem dL_law_1769 : decode cL_law 1769 = .ok (.aload_n 2, 1) := by decide +kernel
theorem dL_law_1770 : decode cL_law 1770 = .ok (.invokevirtual 247, 3) := by decide +kernel
theorem dL_law_1773 : decode cL_law 1773 = .ok (.if_icmp .eq 1747, 3) := by decide +kernel
theorem dL_law_1776 : decode cL_law 1776 = .ok (.iconst 0, 1) := by decide +kernel
theorem dL_law_1777 : decode cL_law 1777 = .ok (.ireturn, 1) := by decide +kernel
theorem dL_law_1778 : decode cL_law 1778 = .ok (.aload_n 1, 1) := by decide +kernel
theorem dL_law_1779 : decode cL_law 1779 = .ok (.aload_n 0, 1) := by decide +kernel
theorem dL_law_1780 : decode cL_law 1780 = .ok (.iload 5, 2) := by decide +kernel
theorem dL_law_1782 : decode cL_law 1782 = .ok (.iconst 1, 1) := by decide +kernel
theorem dL_law_1783 : decode cL_law 1783 = .ok (.iadd, 1) := by decide +kernel
theorem dL_law_1784 : decode cL_law 1784 = .ok (.iaload, 1) := by decide +kernel
theorem dL_law_1785 : decode cL_law 1785 = .ok (.aload_n 3, 1) := by decide +kernel
theorem dL_law_1786 : decode cL_law 1786 = .ok (.invokestatic 248, 3) := by decide +kernel
theorem dL_law_1789 : decode cL_law 1789 = .ok (.istore 6, 2) := by decide +kernel
theorem dL_law_1791 : decode cL_law 1791 = .ok (.aload_n 2, 1) := by decide +kernel
theorem dL_law_1792 : decode cL_law 1792 = .ok (.aload_n 0, 1) := by decide +kernel
theorem dL_law_1793 : decode cL_law 1793 = .ok (.iload 5, 2) := by decide +kernel
theorem dL_law_1795 : decode cL_law 1795 = .ok (.iconst 1, 1) := by decide +kernel
theorem dL_law_1796 : decode cL_law 1796 = .ok (.iadd, 1) := by decide +kernel
theorem dL_law_1797 : decode cL_law 1797 = .ok (.iaload, 1) := by decide +kernel
theorem dL_law_1798 : decode cL_law 1798 = .ok (.invokevirtual 250, 3) := by decide +kernel
theorem dL_law_1801 : decode cL_law 1801 = .ok (.istore 7, 2) := by decide +kernel
theorem dL_law_1803 : decode cL_law 1803 = .ok (.aload_n 2, 1) := by decide +kernel
theorem dL_law_1804 : decode cL_law 1804 = .ok (.invokevirtual 166, 3) := by decide +kernel
theorem dL_law_1807 : decode cL_law 1807 = .ok (.iload 6, 2) := by decide +kernel
theorem dL_law_1809 : decode cL_law 1809 = .ok (.if_icmp .eq 5, 3) := by decide +kernel
theorem dL_law_1812 : decode cL_law 1812 = .ok (.iconst 0, 1) := by decide +kernel
theorem dL_law_1813 : decode cL_law 1813 = .ok (.ireturn, 1) := by decide +kernel
theorem dL_law_1814 : decode cL_law 1814 = .ok (.iload 6, 2) := by decide +kernel
theorem dL_law_1816 : decode cL_law 1816 = .ok (.ifCond .ne 15, 3) := by decide +kernel
theorem dL_law_1819 : decode cL_law 1819 = .ok (.aload_n 3, 1) := by decide +kernel
theorem dL_law_1820 : decode cL_law 1820 = .ok (.iconst 0, 1) := by decide +kernel
theorem dL_law_1821 : decode cL_law 1821 = .ok (.laload, 1) := by decide +kernel
theorem dL_law_1822 : decode cL_law 1822 = .ok (.iload 7, 2) := by decide +kernel
theorem dL_law_1824 : decode cL_law 1824 = .ok (.i2l, 1) := by decide +kernel
theorem dL_law_1825 : decode cL_law 1825 = .ok (.lcmp, 1) := by decide +kernel
theorem dL_law_1826 : decode cL_law 1826 = .ok (.ifCond .eq 5, 3) := by decide +kernel
theorem dL_law_1829 : decode cL_law 1829 = .ok (.iconst 0, 1) := by decide +kernel
theorem dL_law_1830 : decode cL_law 1830 = .ok (.ireturn, 1) := by decide +kernel
theorem dL_law_1831 : decode cL_law 1831 = .ok (.goto 1689, 3) := by decide +kernel
theorem dL_law_1834 : decode cL_law 1834 = .ok (.aload_n 1, 1) := by decide +kernel
theorem dL_law_1835 : decode cL_law 1835 = .ok (.aload_n 0, 1) := by decide +kernel
theorem dL_law_1836 : decode cL_law 1836 = .ok (.iload 5, 2) := by decide +kernel
theorem dL_law_1838 : decode cL_law 1838 = .ok (.iconst 1, 1) := by decide +kernel
theorem dL_law_1839 : decode cL_law 1839 = .ok (.iadd, 1) := by decide +kernel
theorem dL_law_1840 : decode cL_law 1840 = .ok (.iaload, 1) := by decide +kernel
theorem dL_law_1841 : decode cL_law 1841 = .ok (.aload_n 3, 1) := by decide +kernel
theorem dL_law_1842 : decode cL_law 1842 = .ok (.invokestatic 251, 3) := by decide +kernel
theorem dL_law_1845 : decode cL_law 1845 = .ok (.istore 6, 2) := by decide +kernel
theorem dL_law_1847 : decode cL_law 1847 = .ok (.aload_n 2, 1) := by decide +kernel
theorem dL_law_1848 : decode cL_law 1848 = .ok (.aload_n 0, 1) := by decide +kernel
theorem dL_law_1849 : decode cL_law 1849 = .ok (.iload 5, 2) := by decide +kernel
theorem dL_law_1851 : decode cL_law 1851 = .ok (.iconst 1, 1) := by decide +kernel
theorem dL_law_1852 : decode cL_law 1852 = .ok (.iadd, 1) := by decide +kernel
theorem dL_law_1853 : decode cL_law 1853 = .ok (.iaload, 1) := by decide +kernel
theorem dL_law_1854 : decode cL_law 1854 = .ok (.invokevirtual 253, 3) := by decide +kernel
theorem dL_law_1857 : decode cL_law 1857 = .ok (.istore 7, 2) := by decide +kernel
theorem dL_law_1859 : decode cL_law 1859 = .ok (.aload_n 2, 1) := by decide +kernel
theorem dL_law_1860 : decode cL_law 1860 = .ok (.invokevirtual 166, 3) := by decide +kernel
theorem dL_law_1863 : decode cL_law 1863 = .ok (.iload 6, 2) := by decide +kernel
theorem dL_law_1865 : decode cL_law 1865 = .ok (.if_icmp .eq 5, 3) := by decide +kernel
theorem dL_law_1868 : decode cL_law 1868 = .ok (.iconst 0, 1) := by decide +kernel
theorem dL_law_1869 : decode cL_law 1869 = .ok (.ireturn, 1) := by decide +kernel
theorem dL_law_1870 : decode cL_law 1870 = .ok (.iload 6, 2) := by decide +kernel
theorem dL_law_1872 : decode cL_law 1872 = .ok (.ifCond .ne 15, 3) := by decide +kernel
theorem dL_law_1875 : decode cL_law 1875 = .ok (.aload_n 3, 1) := by decide +kernel
theorem dL_law_1876 : decode cL_law 1876 = .ok (.iconst 0, 1) := by decide +kernel
theorem dL_law_1877 : decode cL_law 1877 = .ok (.laload, 1) := by decide +kernel
theorem dL_law_1878 : decode cL_law 1878 = .ok (.iload 7, 2) := by decide +kernel
theorem dL_law_1880 : decode cL_law 1880 = .ok (.i2l, 1) := by decide +kernel
theorem dL_law_1881 : decode cL_law 1881 = .ok (.lcmp, 1) := by decide +kernel
theorem dL_law_1882 : decode cL_law 1882 = .ok (.ifCond .eq 5, 3) := by decide +kernel
theorem dL_law_1885 : decode cL_law 1885 = .ok (.iconst 0, 1) := by decide +kernel
theorem dL_law_1886 : decode cL_law 1886 = .ok (.ireturn, 1) := by decide +kernel
theorem dL_law_1887 : decode cL_law 1887 = .ok (.goto 1633, 3) := by decide +kernel
theorem dL_law_1890 : decode cL_law 1890 = .ok (.aload_n 1, 1) := by decide +kernel
theorem dL_law_1891 : decode cL_law 1891 = .ok (.aload_n 0, 1) := by decide +kernel
theorem dL_law_1892 : decode cL_law 1892 = .ok (.iload 5, 2) := by decide +kernel
theorem dL_law_1894 : decode cL_law 1894 = .ok (.iconst 1, 1) := by decide +kernel
theorem dL_law_1895 : decode cL_law 1895 = .ok (.iadd, 1) := by decide +kernel
theorem dL_law_1896 : decode cL_law 1896 = .ok (.iaload, 1) := by decide +kernel
theorem dL_law_1897 : decode cL_law 1897 = .ok (.aload_n 3, 1) := by decide +kernel
theorem dL_law_1898 : decode cL_law 1898 = .ok (.invokestatic 254, 3) := by decide +kernel
theorem dL_law_1901 : decode cL_law 1901 = .ok (.istore 6, 2) := by decide +kernel
theorem dL_law_1903 : decode cL_law 1903 = .ok (.aload_n 2, 1) := by decide +kernel
theorem dL_law_1904 : decode cL_law 1904 = .ok (.aload_n 0, 1) := by decide +kernel
theorem dL_law_1905 : decode cL_law 1905 = .ok (.iload 5, 2) := by decide +kernel
theorem dL_law_1907 : decode cL_law 1907 = .ok (.iconst 1, 1) := by decide +kernel
theorem dL_law_1908 : decode cL_law 1908 = .ok (.iadd, 1) := by decide +kernel
theorem dL_law_1909 : decode cL_law 1909 = .ok (.iaload, 1) := by decide +kernel
theorem dL_law_1910 : decode cL_law 1910 = .ok (.invokevirtual 256, 3) := by decide +kernel
theorem dL_law_1913 : decode cL_law 1913 = .ok (.istore 7, 2) := by decide +kernel
theorem dL_law_1915 : decode cL_law 1915 = .ok (.aload_n 2, 1) := by decide +kernel
theorem dL_law_1916 : decode cL_law 1916 = .ok (.invokevirtual 166, 3) := by decide +kernel
theorem dL_law_1919 : decode cL_law 1919 = .ok (.iload 6, 2) := by decide +kernel
theorem dL_law_1921 : decode cL_law 1921 = .ok (.if_icmp .eq 5, 3) := by decide +kernel
theorem dL_law_1924 : decode cL_law 1924 = .ok (.iconst 0, 1) := by decide +kernel
theorem dL_law_1925 : decode cL_law 1925 = .ok (.ireturn, 1) := by decide +kernel
theorem dL_law_1926 : decode cL_law 1926 = .ok (.iload 6, 2) := by decide +kernel
theorem dL_law_1928 : decode cL_law 1928 = .ok (.ifCond .ne 15, 3) := by decide +kernel
theorem dL_law_1931 : decode cL_law 1931 = .ok (.aload_n 3, 1) := by decide +kernel
theorem dL_law_1932 : decode cL_law 1932 = .ok (.iconst 0, 1) := by decide +kernel
theorem dL_law_1933 : decode cL_law 1933 = .ok (.laload, 1) := by decide +kernel
theorem dL_law_1934 : decode cL_law 1934 = .ok (.iload 7, 2) := by decide +kernel
theorem dL_law_1936 : decode cL_law 1936 = .ok (.i2l, 1) := by decide +kernel
theorem dL_law_1937 : decode cL_law 1937 = .ok (.lcmp, 1) := by decide +kernel
theorem dL_law_1938 : decode cL_law 1938 = .ok (.ifCond .eq 5, 3) := by decide +kernel
theorem dL_law_1941 : decode cL_law 1941 = .ok (.iconst 0, 1) := by decide +kernel
theorem dL_law_1942 : decode cL_law 1942 = .ok (.ireturn, 1) := by decide +kernel
theorem dL_law_1943 : decode cL_law 1943 = .ok (.goto 1577, 3) := by decide +kernel
theorem dL_law_1946 : decode cL_law 1946 = .ok (.aload_n 1, 1) := by decide +kernel
theorem dL_law_1947 : decode cL_law 1947 = .ok (.aload_n 0, 1) := by decide +kernel
theorem dL_law_1948 : decode cL_law 1948 = .ok (.iload 5, 2) := by decide +kernel
theorem dL_law_1950 : decode cL_law 1950 = .ok (.iconst 1, 1) := by decide +kernel
theorem dL_law_1951 : decode cL_law 1951 = .ok (.iadd, 1) := by decide +kernel
theorem dL_law_1952 : decode cL_law 1952 = .ok (.iaload, 1) := by decide +kernel
theorem dL_law_1953 : decode cL_law 1953 = .ok (.aload 4, 2) := by decide +kernel
theorem dL_law_1955 : decode cL_law 1955 = .ok (.invokestatic 257, 3) := by decide +kernel
theorem dL_law_1958 : decode cL_law 1958 = .ok (.istore 6, 2) := by decide +kernel
theorem dL_law_1960 : decode cL_law 1960 = .ok (.aload_n 2, 1) := by decide +kernel
theorem dL_law_1961 : decode cL_law 1961 = .ok (.aload_n 0, 1) := by decide +kernel
theorem dL_law_1962 : decode cL_law 1962 = .ok (.iload 5, 2) := by decide +kernel
theorem dL_law_1964 : decode cL_law 1964 = .ok (.iconst 1, 1) := by decide +kernel
theorem dL_law_1965 : decode cL_law 1965 = .ok (.iadd, 1) := by decide +kernel
theorem dL_law_1966 : decode cL_law 1966 = .ok (.iaload, 1) := by decide +kernel
theorem dL_law_1967 : decode cL_law 1967 = .ok (.invokevirtual 259, 3) := by decide +kernel
theorem dL_law_1970 : decode cL_law 1970 = .ok (.fstore 7, 2) := by decide +kernel
theorem dL_law_1972 : decode cL_law 1972 = .ok (.aload_n 2, 1) := by decide +kernel
theorem dL_law_1973 : decode cL_law 1973 = .ok (.invokevirtual 166, 3) := by decide +kernel
theorem dL_law_1976 : decode cL_law 1976 = .ok (.iload 6, 2) := by decide +kernel
theorem dL_law_1978 : decode cL_law 1978 = .ok (.if_icmp .eq 5, 3) := by decide +kernel
theorem dL_law_1981 : decode cL_law 1981 = .ok (.iconst 0, 1) := by decide +kernel
theorem dL_law_1982 : decode cL_law 1982 = .ok (.ireturn, 1) := by decide +kernel
theorem dL_law_1983 : decode cL_law 1983 = .ok (.iload 6, 2) := by decide +kernel
theorem dL_law_1985 : decode cL_law 1985 = .ok (.ifCond .ne 36, 3) := by decide +kernel
theorem dL_law_1988 : decode cL_law 1988 = .ok (.aload 4, 2) := by decide +kernel
theorem dL_law_1990 : decode cL_law 1990 = .ok (.iconst 0, 1) := by decide +kernel
theorem dL_law_1991 : decode cL_law 1991 = .ok (.daload, 1) := by decide +kernel
theorem dL_law_1992 : decode cL_law 1992 = .ok (.fload 7, 2) := by decide +kernel
theorem dL_law_1994 : decode cL_law 1994 = .ok (.f2d, 1) := by decide +kernel
theorem dL_law_1995 : decode cL_law 1995 = .ok (.dcmp .l, 1) := by decide +kernel
theorem dL_law_1996 : decode cL_law 1996 = .ok (.ifCond .eq 25, 3) := by decide +kernel
theorem dL_law_1999 : decode cL_law 1999 = .ok (.aload 4, 2) := by decide +kernel
theorem dL_law_2001 : decode cL_law 2001 = .ok (.iconst 0, 1) := by decide +kernel
theorem dL_law_2002 : decode cL_law 2002 = .ok (.daload, 1) := by decide +kernel
theorem dL_law_2003 : decode cL_law 2003 = .ok (.aload 4, 2) := by decide +kernel
theorem dL_law_2005 : decode cL_law 2005 = .ok (.iconst 0, 1) := by decide +kernel
theorem dL_law_2006 : decode cL_law 2006 = .ok (.daload, 1) := by decide +kernel
theorem dL_law_2007 : decode cL_law 2007 = .ok (.dcmp .l, 1) := by decide +kernel
theorem dL_law_2008 : decode cL_law 2008 = .ok (.ifCond .eq 11, 3) := by decide +kernel
theorem dL_law_2011 : decode cL_law 2011 = .ok (.fload 7, 2) := by decide +kernel
theorem dL_law_2013 : decode cL_law 2013 = .ok (.fload 7, 2) := by decide +kernel
theorem dL_law_2015 : decode cL_law 2015 = .ok (.fcmp .l, 1) := by decide +kernel
theorem dL_law_2016 : decode cL_law 2016 = .ok (.ifCond .ne 5, 3) := by decide +kernel
theorem dL_law_2019 : decode cL_law 2019 = .ok (.iconst 0, 1) := by decide +kernel
theorem dL_law_2020 : decode cL_law 2020 = .ok (.ireturn, 1) := by decide +kernel
theorem dL_law_2021 : decode cL_law 2021 = .ok (.goto 1499, 3) := by decide +kernel
theorem dL_law_2024 : decode cL_law 2024 = .ok (.aload_n 1, 1) := by decide +kernel
theorem dL_law_2025 : decode cL_law 2025 = .ok (.aload_n 0, 1) := by decide +kernel
theorem dL_law_2026 : decode cL_law 2026 = .ok (.iload 5, 2) := by decide +kernel
theorem dL_law_2028 : decode cL_law 2028 = .ok (.iconst 1, 1) := by decide +kernel
theorem dL_law_2029 : decode cL_law 2029 = .ok (.iadd, 1) := by decide +kernel
theorem dL_law_2030 : decode cL_law 2030 = .ok (.iaload, 1) := by decide +kernel
theorem dL_law_2031 : decode cL_law 2031 = .ok (.aload_n 3, 1) := by decide +kernel
theorem dL_law_2032 : decode cL_law 2032 = .ok (.invokestatic 260, 3) := by decide +kernel
theorem dL_law_2035 : decode cL_law 2035 = .ok (.istore 6, 2) := by decide +kernel
theorem dL_law_2037 : decode cL_law 2037 = .ok (.aload_n 2, 1) := by decide +kernel
theorem dL_law_2038 : decode cL_law 2038 = .ok (.aload_n 0, 1) := by decide +kernel
theorem dL_law_2039 : decode cL_law 2039 = .ok (.iload 5, 2) := by decide +kernel
theorem dL_law_2041 : decode cL_law 2041 = .ok (.iconst 1, 1) := by decide +kernel
theorem dL_law_2042 : decode cL_law 2042 = .ok (.iadd, 1) := by decide +kernel
theorem dL_law_2043 : decode cL_law 2043 = .ok (.iaload, 1) := by decide +kernel
theorem dL_law_2044 : decode cL_law 2044 = .ok (.invokevirtual 262, 3) := by decide +kernel
theorem dL_law_2047 : decode cL_law 2047 = .ok (.istore 7, 2) := by decide +kernel
theorem dL_law_2049 : decode cL_law 2049 = .ok (.aload_n 2, 1) := by decide +kernel
theorem dL_law_2050 : decode cL_law 2050 = .ok (.invokevirtual 166, 3) := by decide +kernel
theorem dL_law_2053 : decode cL_law 2053 = .ok (.iload 6, 2) := by decide +kernel
theorem dL_law_2055 : decode cL_law 2055 = .ok (.if_icmp .eq 5, 3) := by decide +kernel
theorem dL_law_2058 : decode cL_law 2058 = .ok (.iconst 0, 1) := by decide +kernel
theorem dL_law_2059 : decode cL_law 2059 = .ok (.ireturn, 1) := by decide +kernel
theorem dL_law_2060 : decode cL_law 2060 = .ok (.iload 6, 2) := by decide +kernel
theorem dL_law_2062 : decode cL_law 2062 = .ok (.ifCond .ne 15, 3) := by decide +kernel
theorem dL_law_2065 : decode cL_law 2065 = .ok (.aload_n 3, 1) := by decide +kernel
theorem dL_law_2066 : decode cL_law 2066 = .ok (.iconst 0, 1) := by decide +kernel
theorem dL_law_2067 : decode cL_law 2067 = .ok (.laload, 1) := by decide +kernel
theorem dL_law_2068 : decode cL_law 2068 = .ok (.iload 7, 2) := by decide +kernel
theorem dL_law_2070 : decode cL_law 2070 = .ok (.i2l, 1) := by decide +kernel
theorem dL_law_2071 : decode cL_law 2071 = .ok (.lcmp, 1) := by decide +kernel
theorem dL_law_2072 : decode cL_law 2072 = .ok (.ifCond .eq 5, 3) := by decide +kernel
theorem dL_law_2075 : decode cL_law 2075 = .ok (.iconst 0, 1) := by decide +kernel
theorem dL_law_2076 : decode cL_law 2076 = .ok (.ireturn, 1) := by decide +kernel
theorem dL_law_2077 : decode cL_law 2077 = .ok (.goto 1443, 3) := by decide +kernel
theorem dL_law_2080 : decode cL_law 2080 = .ok (.aload_n 1, 1) := by decide +kernel
theorem dL_law_2081 : decode cL_law 2081 = .ok (.aload_n 0, 1) := by decide +kernel
theorem dL_law_2082 : decode cL_law 2082 = .ok (.iload 5, 2) := by decide +kernel
theorem dL_law_2084 : decode cL_law 2084 = .ok (.iconst 1, 1) := by decide +kernel
theorem dL_law_2085 : decode cL_law 2085 = .ok (.iadd, 1) := by decide +kernel
theorem dL_law_2086 : decode cL_law 2086 = .ok (.iaload, 1) := by decide +kernel
theorem dL_law_2087 : decode cL_law 2087 = .ok (.aload_n 3, 1) := by decide +kernel
theorem dL_law_2088 : decode cL_law 2088 = .ok (.invokestatic 263, 3) := by decide +kernel
theorem dL_law_2091 : decode cL_law 2091 = .ok (.istore 6, 2) := by decide +kernel
theorem dL_law_2093 : decode cL_law 2093 = .ok (.aload_n 2, 1) := by decide +kernel
theorem dL_law_2094 : decode cL_law 2094 = .ok (.aload_n 0, 1) := by decide +kernel
theorem dL_law_2095 : decode cL_law 2095 = .ok (.iload 5, 2) := by decide +kernel
theorem dL_law_2097 : decode cL_law 2097 = .ok (.iconst 1, 1) := by decide +kernel
theorem dL_law_2098 : decode cL_law 2098 = .ok (.iadd, 1) := by decide +kernel
theorem dL_law_2099 : decode cL_law 2099 = .ok (.iaload, 1) := by decide +kernel
theorem dL_law_2100 : decode cL_law 2100 = .ok (.invokevirtual 265, 3) := by decide +kernel
theorem dL_law_2103 : decode cL_law 2103 = .ok (.istore 7, 2) := by decide +kernel
theorem dL_law_2105 : decode cL_law 2105 = .ok (.aload_n 2, 1) := by decide +kernel
theorem dL_law_2106 : decode cL_law 2106 = .ok (.invokevirtual 166, 3) := by decide +kernel
theorem dL_law_2109 : decode cL_law 2109 = .ok (.iload 6, 2) := by decide +kernel
theorem dL_law_2111 : decode cL_law 2111 = .ok (.if_icmp .eq 5, 3) := by decide +kernel
theorem dL_law_2114 : decode cL_law 2114 = .ok (.iconst 0, 1) := by decide +kernel
theorem dL_law_2115 : decode cL_law 2115 = .ok (.ireturn, 1) := by decide +kernel
theorem dL_law_2116 : decode cL_law 2116 = .ok (.iload 6, 2) := by decide +kernel
theorem dL_law_2118 : decode cL_law 2118 = .ok (.ifCond .ne 15, 3) := by decide +kernel
theorem dL_law_2121 : decode cL_law 2121 = .ok (.aload_n 3, 1) := by decide +kernel
theorem dL_law_2122 : decode cL_law 2122 = .ok (.iconst 0, 1) := by decide +kernel
theorem dL_law_2123 : decode cL_law 2123 = .ok (.laload, 1) := by decide +kernel
theorem dL_law_2124 : decode cL_law 2124 = .ok (.iload 7, 2) := by decide +kernel
theorem dL_law_2126 : decode cL_law 2126 = .ok (.i2l, 1) := by decide +kernel
theorem dL_law_2127 : decode cL_law 2127 = .ok (.lcmp, 1) := by decide +kernel
theorem dL_law_2128 : decode cL_law 2128 = .ok (.ifCond .eq 5, 3) := by decide +kernel
theorem dL_law_2131 : decode cL_law 2131 = .ok (.iconst 0, 1) := by decide +kernel
theorem dL_law_2132 : decode cL_law 2132 = .ok (.ireturn, 1) := by decide +kernel
theorem dL_law_2133 : decode cL_law 2133 = .ok (.goto 1387, 3) := by decide +kernel
theorem dL_law_2136 : decode cL_law 2136 = .ok (.aload_n 1, 1) := by decide +kernel
theorem dL_law_2137 : decode cL_law 2137 = .ok (.invokevirtual 266, 3) := by decide +kernel
theorem dL_law_2140 : decode cL_law 2140 = .ok (.aload_n 2, 1) := by decide +kernel
theorem dL_law_2141 : decode cL_law 2141 = .ok (.invokevirtual 270, 3) := by decide +kernel
theorem dL_law_2144 : decode cL_law 2144 = .ok (.if_icmp .eq 1376, 3) := by decide +kernel
theorem dL_law_2147 : decode cL_law 2147 = .ok (.iconst 0, 1) := by decide +kernel
theorem dL_law_2148 : decode cL_law 2148 = .ok (.ireturn, 1) := by decide +kernel
theorem dL_law_2149 : decode cL_law 2149 = .ok (.aload_n 1, 1) := by decide +kernel
theorem dL_law_2150 : decode cL_law 2150 = .ok (.invokevirtual 271, 3) := by decide +kernel
theorem dL_law_2153 : decode cL_law 2153 = .ok (.aload_n 2, 1) := by decide +kernel
theorem dL_law_2154 : decode cL_law 2154 = .ok (.invokevirtual 274, 3) := by decide +kernel
theorem dL_law_2157 : decode cL_law 2157 = .ok (.if_icmp .eq 1363, 3) := by decide +kernel
theorem dL_law_2160 : decode cL_law 2160 = .ok (.iconst 0, 1) := by decide +kernel
theorem dL_law_2161 : decode cL_law 2161 = .ok (.ireturn, 1) := by decide +kernel
theorem dL_law_2162 : decode cL_law 2162 = .ok (.aload_n 1, 1) := by decide +kernel
theorem dL_law_2163 : decode cL_law 2163 = .ok (.invokevirtual 275, 3) := by decide +kernel
theorem dL_law_2166 : decode cL_law 2166 = .ok (.f2d, 1) := by decide +kernel
theorem dL_law_2167 : decode cL_law 2167 = .ok (.dstore 6, 2) := by decide +kernel
theorem dL_law_2169 : decode cL_law 2169 = .ok (.aload_n 2, 1) := by decide +kernel
theorem dL_law_2170 : decode cL_law 2170 = .ok (.invokevirtual 278, 3) := by decide +kernel
theorem dL_law_2173 : decode cL_law 2173 = .ok (.f2d, 1) := by decide +kernel
theorem dL_law_2174 : decode cL_law 2174 = .ok (.dstore 8, 2) := by decide +kernel
theorem dL_law_2176 : decode cL_law 2176 = .ok (.dload 6, 2) := by decide +kernel
theorem dL_law_2178 : decode cL_law 2178 = .ok (.dload 8, 2) := by decide +kernel
theorem dL_law_2180 : decode cL_law 2180 = .ok (.dcmp .l, 1) := by decide +kernel
theorem dL_law_2181 : decode cL_law 2181 = .ok (.ifCond .eq 21, 3) := by decide +kernel
theorem dL_law_2184 : decode cL_law 2184 = .ok (.dload 6, 2) := by decide +kernel
theorem dL_law_2186 : decode cL_law 2186 = .ok (.dload 6, 2) := by decide +kernel
theorem dL_law_2188 : decode cL_law 2188 = .ok (.dcmp .l, 1) := by decide +kernel
theorem dL_law_2189 : decode cL_law 2189 = .ok (.ifCond .eq 11, 3) := by decide +kernel
theorem dL_law_2192 : decode cL_law 2192 = .ok (.dload 8, 2) := by decide +kernel
theorem dL_law_2194 : decode cL_law 2194 = .ok (.dload 8, 2) := by decide +kernel
theorem dL_law_2196 : decode cL_law 2196 = .ok (.dcmp .l, 1) := by decide +kernel
theorem dL_law_2197 : decode cL_law 2197 = .ok (.ifCond .ne 5, 3) := by decide +kernel
theorem dL_law_2200 : decode cL_law 2200 = .ok (.iconst 0, 1) := by decide +kernel
theorem dL_law_2201 : decode cL_law 2201 = .ok (.ireturn, 1) := by decide +kernel
theorem dL_law_2202 : decode cL_law 2202 = .ok (.goto 1318, 3) := by decide +kernel
theorem dL_law_2205 : decode cL_law 2205 = .ok (.aload_n 1, 1) := by decide +kernel
theorem dL_law_2206 : decode cL_law 2206 = .ok (.invokevirtual 279, 3) := by decide +kernel
theorem dL_law_2209 : decode cL_law 2209 = .ok (.f2d, 1) := by decide +kernel
theorem dL_law_2210 : decode cL_law 2210 = .ok (.dstore 6, 2) := by decide +kernel
theorem dL_law_2212 : decode cL_law 2212 = .ok (.aload_n 2, 1) := by decide +kernel
theorem dL_law_2213 : decode cL_law 2213 = .ok (.invokevirtual 282, 3) := by decide +kernel
theorem dL_law_2216 : decode cL_law 2216 = .ok (.f2d, 1) := by decide +kernel
theorem dL_law_2217 : decode cL_law 2217 = .ok (.dstore 8, 2) := by decide +kernel
theorem dL_law_2219 : decode cL_law 2219 = .ok (.dload 6, 2) := by decide +kernel
theorem dL_law_2221 : decode cL_law 2221 = .ok (.dload 8, 2) := by decide +kernel
theorem dL_law_2223 : decode cL_law 2223 = .ok (.dcmp .l, 1) := by decide +kernel
theorem dL_law_2224 : decode cL_law 2224 = .ok (.ifCond .eq 21, 3) := by decide +kernel
theorem dL_law_2227 : decode cL_law 2227 = .ok (.dload 6, 2) := by decide +kernel
theorem dL_law_2229 : decode cL_law 2229 = .ok (.dload 6, 2) := by decide +kernel
theorem dL_law_2231 : decode cL_law 2231 = .ok (.dcmp .l, 1) := by decide +kernel
theorem dL_law_2232 : decode cL_law 2232 = .ok (.ifCond .eq 11, 3) := by decide +kernel
theorem dL_law_2235 : decode cL_law 2235 = .ok (.dload 8, 2) := by decide +kernel
theorem dL_law_2237 : decode cL_law 2237 = .ok (.dload 8, 2) := by decide +kernel
theorem dL_law_2239 : decode cL_law 2239 = .ok (.dcmp .l, 1) := by decide +kernel
theorem dL_law_2240 : decode cL_law 2240 = .ok (.ifCond .ne 5, 3) := by decide +kernel
theorem dL_law_2243 : decode cL_law 2243 = .ok (.iconst 0, 1) := by decide +kernel
theorem dL_law_2244 : decode cL_law 2244 = .ok (.ireturn, 1) := by decide +kernel
theorem dL_law_2245 : decode cL_law 2245 = .ok (.goto 1275, 3) := by decide +kernel
theorem dL_law_2248 : decode cL_law 2248 = .ok (.aload_n 1, 1) := by decide +kernel
theorem dL_law_2249 : decode cL_law 2249 = .ok (.invokevirtual 283, 3) := by decide +kernel
theorem dL_law_2252 : decode cL_law 2252 = .ok (.f2d, 1) := by decide +kernel
theorem dL_law_2253 : decode cL_law 2253 = .ok (.dstore 6, 2) := by decide +kernel
theorem dL_law_2255 : decode cL_law 2255 = .ok (.aload_n 2, 1) := by decide +kernel
theorem dL_law_2256 : decode cL_law 2256 = .ok (.invokevirtual 286, 3) := by decide +kernel
theorem dL_law_2259 : decode cL_law 2259 = .ok (.f2d, 1) := by decide +kernel
theorem dL_law_2260 : decode cL_law 2260 = .ok (.dstore 8, 2) := by decide +kernel
theorem dL_law_2262 : decode cL_law 2262 = .ok (.dload 6, 2) := by decide +kernel
theorem dL_law_2264 : decode cL_law 2264 = .ok (.dload 8, 2) := by decide +kernel
theorem dL_law_2266 : decode cL_law 2266 = .ok (.dcmp .l, 1) := by decide +kernel
theorem dL_law_2267 : decode cL_law 2267 = .ok (.ifCond .eq 21, 3) := by decide +kernel
theorem dL_law_2270 : decode cL_law 2270 = .ok (.dload 6, 2) := by decide +kernel
theorem dL_law_2272 : decode cL_law 2272 = .ok (.dload 6, 2) := by decide +kernel
theorem dL_law_2274 : decode cL_law 2274 = .ok (.dcmp .l, 1) := by decide +kernel
theorem dL_law_2275 : decode cL_law 2275 = .ok (.ifCond .eq 11, 3) := by decide +kernel
theorem dL_law_2278 : decode cL_law 2278 = .ok (.dload 8, 2) := by decide +kernel
theorem dL_law_2280 : decode cL_law 2280 = .ok (.dload 8, 2) := by decide +kernel
theorem dL_law_2282 : decode cL_law 2282 = .ok (.dcmp .l, 1) := by decide +kernel
theorem dL_law_2283 : decode cL_law 2283 = .ok (.ifCond .ne 5, 3) := by decide +kernel
theorem dL_law_2286 : decode cL_law 2286 = .ok (.iconst 0, 1) := by decide +kernel
theorem dL_law_2287 : decode cL_law 2287 = .ok (.ireturn, 1) := by decide +kernel
theorem dL_law_2288 : decode cL_law 2288 = .ok (.goto 1232, 3) := by decide +kernel
theorem dL_law_2291 : decode cL_law 2291 = .ok (.aload_n 1, 1) := by decide +kernel
theorem dL_law_2292 : decode cL_law 2292 = .ok (.invokevirtual 287, 3) := by decide +kernel
theorem dL_law_2295 : decode cL_law 2295 = .ok (.f2d, 1) := by decide +kernel
theorem dL_law_2296 : decode cL_law 2296 = .ok (.dstore 6, 2) := by decide +kernel
theorem dL_law_2298 : decode cL_law 2298 = .ok (.aload_n 2, 1) := by decide +kernel
theorem dL_law_2299 : decode cL_law 2299 = .ok (.invokevirtual 290, 3) := by decide +kernel
theorem dL_law_2302 : decode cL_law 2302 = .ok (.f2d, 1) := by decide +kernel
theorem dL_law_2303 : decode cL_law 2303 = .ok (.dstore 8, 2) := by decide +kernel
theorem dL_law_2305 : decode cL_law 2305 = .ok (.dload 6, 2) := by decide +kernel
theorem dL_law_2307 : decode cL_law 2307 = .ok (.dload 8, 2) := by decide +kernel
theorem dL_law_2309 : decode cL_law 2309 = .ok (.dcmp .l, 1) := by decide +kernel
theorem dL_law_2310 : decode cL_law 2310 = .ok (.ifCond .eq 21, 3) := by decide +kernel
theorem dL_law_2313 : decode cL_law 2313 = .ok (.dload 6, 2) := by decide +kernel
theorem dL_law_2315 : decode cL_law 2315 = .ok (.dload 6, 2) := by decide +kernel
theorem dL_law_2317 : decode cL_law 2317 = .ok (.dcmp .l, 1) := by decide +kernel
theorem dL_law_2318 : decode cL_law 2318 = .ok (.ifCond .eq 11, 3) := by decide +kernel
theorem dL_law_2321 : decode cL_law 2321 = .ok (.dload 8, 2) := by decide +kernel
theorem dL_law_2323 : decode cL_law 2323 = .ok (.dload 8, 2) := by decide +kernel
theorem dL_law_2325 : decode cL_law 2325 = .ok (.dcmp .l, 1) := by decide +kernel
theorem dL_law_2326 : decode cL_law 2326 = .ok (.ifCond .ne 5, 3) := by decide +kernel
theorem dL_law_2329 : decode cL_law 2329 = .ok (.iconst 0, 1) := by decide +kernel
theorem dL_law_2330 : decode cL_law 2330 = .ok (.ireturn, 1) := by decide +kernel
theorem dL_law_2331 : decode cL_law 2331 = .ok (.goto 1189, 3) := by decide +kernel
theorem dL_law_2334 : decode cL_law 2334 = .ok (.aload_n 1, 1) := by decide +kernel
theorem dL_law_2335 : decode cL_law 2335 = .ok (.invokevirtual 291, 3) := by decide +kernel
theorem dL_law_2338 : decode cL_law 2338 = .ok (.f2d, 1) := by decide +kernel
theorem dL_law_2339 : decode cL_law 2339 = .ok (.dstore 6, 2) := by decide +kernel
theorem dL_law_2341 : decode cL_law 2341 = .ok (.aload_n 2, 1) := by decide +kernel
theorem dL_law_2342 : decode cL_law 2342 = .ok (.invokevirtual 294, 3) := by decide +kernel
theorem dL_law_2345 : decode cL_law 2345 = .ok (.f2d, 1) := by decide +kernel
theorem dL_law_2346 : decode cL_law 2346 = .ok (.dstore 8, 2) := by decide +kernel
theorem dL_law_2348 : decode cL_law 2348 = .ok (.dload 6, 2) := by decide +kernel
theorem dL_law_2350 : decode cL_law 2350 = .ok (.dload 8, 2) := by decide +kernel
theorem dL_law_2352 : decode cL_law 2352 = .ok (.dcmp .l, 1) := by decide +kernel
theorem dL_law_2353 : decode cL_law 2353 = .ok (.ifCond .eq 21, 3) := by decide +kernel
theorem dL_law_2356 : decode cL_law 2356 = .ok (.dload 6, 2) := by decide +kernel
theorem dL_law_2358 : decode cL_law 2358 = .ok (.dload 6, 2) := by decide +kernel
theorem dL_law_2360 : decode cL_law 2360 = .ok (.dcmp .l, 1) := by decide +kernel
theorem dL_law_2361 : decode cL_law 2361 = .ok (.ifCond .eq 11, 3) := by decide +kernel
theorem dL_law_2364 : decode cL_law 2364 = .ok (.dload 8, 2) := by decide +kernel
theorem dL_law_2366 : decode cL_law 2366 = .ok (.dload 8, 2) := by decide +kernel
theorem dL_law_2368 : decode cL_law 2368 = .ok (.dcmp .l, 1) := by decide +kernel
theorem dL_law_2369 : decode cL_law 2369 = .ok (.ifCond .ne 5, 3) := by decide +kernel
theorem dL_law_2372 : decode cL_law 2372 = .ok (.iconst 0, 1) := by decide +kernel
theorem dL_law_2373 : decode cL_law 2373 = .ok (.ireturn, 1) := by decide +kernel
theorem dL_law_2374 : decode cL_law 2374 = .ok (.goto 1146, 3) := by decide +kernel
theorem dL_law_2377 : decode cL_law 2377 = .ok (.aload_n 1, 1) := by decide +kernel
theorem dL_law_2378 : decode cL_law 2378 = .ok (.invokevirtual 295, 3) := by decide +kernel
theorem dL_law_2381 : decode cL_law 2381 = .ok (.f2d, 1) := by decide +kernel
theorem dL_law_2382 : decode cL_law 2382 = .ok (.dstore 6, 2) := by decide +kernel
theorem dL_law_2384 : decode cL_law 2384 = .ok (.aload_n 2, 1) := by decide +kernel
theorem dL_law_2385 : decode cL_law 2385 = .ok (.invokevirtual 298, 3) := by decide +kernel
theorem dL_law_2388 : decode cL_law 2388 = .ok (.f2d, 1) := by decide +kernel
theorem dL_law_2389 : decode cL_law 2389 = .ok (.dstore 8, 2) := by decide +kernel
theorem dL_law_2391 : decode cL_law 2391 = .ok (.dload 6, 2) := by decide +kernel
theorem dL_law_2393 : decode cL_law 2393 = .ok (.dload 8, 2) := by decide +kernel
theorem dL_law_2395 : decode cL_law 2395 = .ok (.dcmp .l, 1) := by decide +kernel
theorem dL_law_2396 : decode cL_law 2396 = .ok (.ifCond .eq 21, 3) := by decide +kernel
theorem dL_law_2399 : decode cL_law 2399 = .ok (.dload 6, 2) := by decide +kernel
theorem dL_law_2401 : decode cL_law 2401 = .ok (.dload 6, 2) := by decide +kernel
theorem dL_law_2403 : decode cL_law 2403 = .ok (.dcmp .l, 1) := by decide +kernel
theorem dL_law_2404 : decode cL_law 2404 = .ok (.ifCond .eq 11, 3) := by decide +kernel
theorem dL_law_2407 : decode cL_law 2407 = .ok (.dload 8, 2) := by decide +kernel
theorem dL_law_2409 : decode cL_law 2409 = .ok (.dload 8, 2) := by decide +kernel
theorem dL_law_2411 : decode cL_law 2411 = .ok (.dcmp .l, 1) := by decide +kernel
theorem dL_law_2412 : decode cL_law 2412 = .ok (.ifCond .ne 5, 3) := by decide +kernel
theorem dL_law_2415 : decode cL_law 2415 = .ok (.iconst 0, 1) := by decide +kernel
theorem dL_law_2416 : decode cL_law 2416 = .ok (.ireturn, 1) := by decide +kernel
theorem dL_law_2417 : decode cL_law 2417 = .ok (.goto 1103, 3) := by decide +kernel
theorem dL_law_2420 : decode cL_law 2420 = .ok (.aload_n 1, 1) := by decide +kernel
theorem dL_law_2421 : decode cL_law 2421 = .ok (.invokevirtual 299, 3) := by decide +kernel
theorem dL_law_2424 : decode cL_law 2424 = .ok (.f2d, 1) := by decide +kernel
theorem dL_law_2425 : decode cL_law 2425 = .ok (.dstore 6, 2) := by decide +kernel
theorem dL_law_2427 : decode cL_law 2427 = .ok (.aload_n 2, 1) := by decide +kernel
theorem dL_law_2428 : decode cL_law 2428 = .ok (.invokevirtual 302, 3) := by decide +kernel
theorem dL_law_2431 : decode cL_law 2431 = .ok (.f2d, 1) := by decide +kernel
theorem dL_law_2432 : decode cL_law 2432 = .ok (.dstore 8, 2) := by decide +kernel
theorem dL_law_2434 : decode cL_law 2434 = .ok (.dload 6, 2) := by decide +kernel
theorem dL_law_2436 : decode cL_law 2436 = .ok (.dload 8, 2) := by decide +kernel
theorem dL_law_2438 : decode cL_law 2438 = .ok (.dcmp .l, 1) := by decide +kernel
theorem dL_law_2439 : decode cL_law 2439 = .ok (.ifCond .eq 21, 3) := by decide +kernel
theorem dL_law_2442 : decode cL_law 2442 = .ok (.dload 6, 2) := by decide +kernel
theorem dL_law_2444 : decode cL_law 2444 = .ok (.dload 6, 2) := by decide +kernel
theorem dL_law_2446 : decode cL_law 2446 = .ok (.dcmp .l, 1) := by decide +kernel
theorem dL_law_2447 : decode cL_law 2447 = .ok (.ifCond .eq 11, 3) := by decide +kernel
theorem dL_law_2450 : decode cL_law 2450 = .ok (.dload 8, 2) := by decide +kernel
theorem dL_law_2452 : decode cL_law 2452 = .ok (.dload 8, 2) := by decide +kernel
theorem dL_law_2454 : decode cL_law 2454 = .ok (.dcmp .l, 1) := by decide +kernel
theorem dL_law_2455 : decode cL_law 2455 = .ok (.ifCond .ne 5, 3) := by decide +kernel
theorem dL_law_2458 : decode cL_law 2458 = .ok (.iconst 0, 1) := by decide +kernel
theorem dL_law_2459 : decode cL_law 2459 = .ok (.ireturn, 1) := by decide +kernel
theorem dL_law_2460 : decode cL_law 2460 = .ok (.goto 1060, 3) := by decide +kernel
theorem dL_law_2463 : decode cL_law 2463 = .ok (.aload_n 1, 1) := by decide +kernel
theorem dL_law_2464 : decode cL_law 2464 = .ok (.invokevirtual 303, 3) := by decide +kernel
theorem dL_law_2467 : decode cL_law 2467 = .ok (.aload_n 2, 1) := by decide +kernel
theorem dL_law_2468 : decode cL_law 2468 = .ok (.invokevirtual 306, 3) := by decide +kernel
theorem dL_law_2471 : decode cL_law 2471 = .ok (.if_icmp .eq 1049, 3) := by decide +kernel
theorem dL_law_2474 : decode cL_law 2474 = .ok (.iconst 0, 1) := by decide +kernel
theorem dL_law_2475 : decode cL_law 2475 = .ok (.ireturn, 1) := by decide +kernel
theorem dL_law_2476 : decode cL_law 2476 = .ok (.aload_n 1, 1) := by decide +kernel
theorem dL_law_2477 : decode cL_law 2477 = .ok (.aload_n 0, 1) := by decide +kernel
theorem dL_law_2478 : decode cL_law 2478 = .ok (.iload 5, 2) := by decide +kernel
theorem dL_law_2480 : decode cL_law 2480 = .ok (.iconst 1, 1) := by decide +kernel
theorem dL_law_2481 : decode cL_law 2481 = .ok (.iadd, 1) := by decide +kernel
theorem dL_law_2482 : decode cL_law 2482 = .ok (.iaload, 1) := by decide +kernel
theorem dL_law_2483 : decode cL_law 2483 = .ok (.aload 4, 2) := by decide +kernel
theorem dL_law_2485 : decode cL_law 2485 = .ok (.invokestatic 307, 3) := by decide +kernel
theorem dL_law_2488 : decode cL_law 2488 = .ok (.istore 6, 2) := by decide +kernel
theorem dL_law_2490 : decode cL_law 2490 = .ok (.aload_n 2, 1) := by decide +kernel
theorem dL_law_2491 : decode cL_law 2491 = .ok (.aload_n 0, 1) := by decide +kernel
theorem dL_law_2492 : decode cL_law 2492 = .ok (.iload 5, 2) := by decide +kernel
theorem dL_law_2494 : decode cL_law 2494 = .ok (.iconst 1, 1) := by decide +kernel
theorem dL_law_2495 : decode cL_law 2495 = .ok (.iadd, 1) := by decide +kernel
theorem dL_law_2496 : decode cL_law 2496 = .ok (.iaload, 1) := by decide +kernel
theorem dL_law_2497 : decode cL_law 2497 = .ok (.invokevirtual 309, 3) := by decide +kernel
theorem dL_law_2500 : decode cL_law 2500 = .ok (.fstore 7, 2) := by decide +kernel
theorem dL_law_2502 : decode cL_law 2502 = .ok (.aload_n 2, 1) := by decide +kernel
theorem dL_law_2503 : decode cL_law 2503 = .ok (.invokevirtual 166, 3) := by decide +kernel
theorem dL_law_2506 : decode cL_law 2506 = .ok (.iload 6, 2) := by decide +kernel
theorem dL_law_2508 : decode cL_law 2508 = .ok (.if_icmp .eq 5, 3) := by decide +kernel
theorem dL_law_2511 : decode cL_law 2511 = .ok (.iconst 0, 1) := by decide +kernel
theorem dL_law_2512 : decode cL_law 2512 = .ok (.ireturn, 1) := by decide +kernel
theorem dL_law_2513 : decode cL_law 2513 = .ok (.iload 6, 2) := by decide +kernel
theorem dL_law_2515 : decode cL_law 2515 = .ok (.ifCond .ne 36, 3) := by decide +kernel
theorem dL_law_2518 : decode cL_law 2518 = .ok (.aload 4, 2) := by decide +kernel
theorem dL_law_2520 : decode cL_law 2520 = .ok (.iconst 0, 1) := by decide +kernel
theorem dL_law_2521 : decode cL_law 2521 = .ok (.daload, 1) := by decide +kernel
theorem dL_law_2522 : decode cL_law 2522 = .ok (.fload 7, 2) := by decide +kernel
theorem dL_law_2524 : decode cL_law 2524 = .ok (.f2d, 1) := by decide +kernel
theorem dL_law_2525 : decode cL_law 2525 = .ok (.dcmp .l, 1) := by decide +kernel
theorem dL_law_2526 : decode cL_law 2526 = .ok (.ifCond .eq 25, 3) := by decide +kernel
theorem dL_law_2529 : decode cL_law 2529 = .ok (.aload 4, 2) := by decide +kernel
theorem dL_law_2531 : decode cL_law 2531 = .ok (.iconst 0, 1) := by decide +kernel
theorem dL_law_2532 : decode cL_law 2532 = .ok (.daload, 1) := by decide +kernel
theorem dL_law_2533 : decode cL_law 2533 = .ok (.aload 4, 2) := by decide +kernel
theorem dL_law_2535 : decode cL_law 2535 = .ok (.iconst 0, 1) := by decide +kernel
theorem dL_law_2536 : decode cL_law 2536 = .ok (.daload, 1) := by decide +kernel
theorem dL_law_2537 : decode cL_law 2537 = .ok (.dcmp .l, 1) := by decide +kernel
theorem dL_law_2538 : decode cL_law 2538 = .ok (.ifCond .eq 11, 3) := by decide +kernel
theorem dL_law_2541 : decode cL_law 2541 = .ok (.fload 7, 2) := by decide +kernel
theorem dL_law_2543 : decode cL_law 2543 = .ok (.fload 7, 2) := by decide +kernel
theorem dL_law_2545 : decode cL_law 2545 = .ok (.fcmp .l, 1) := by decide +kernel
theorem dL_law_2546 : decode cL_law 2546 = .ok (.ifCond .ne 5, 3) := by decide +kernel
theorem dL_law_2549 : decode cL_law 2549 = .ok (.iconst 0, 1) := by decide +kernel
theorem dL_law_2550 : decode cL_law 2550 = .ok (.ireturn, 1) := by decide +kernel
theorem dL_law_2551 : decode cL_law 2551 = .ok (.goto 969, 3) := by decide +kernel
theorem dL_law_2554 : decode cL_law 2554 = .ok (.aload_n 1, 1) := by decide +kernel
theorem dL_law_2555 : decode cL_law 2555 = .ok (.aload_n 0, 1) := by decide +kernel
theorem dL_law_2556 : decode cL_law 2556 = .ok (.iload 5, 2) := by decide +kernel
theorem dL_law_2558 : decode cL_law 2558 = .ok (.iconst 1, 1) := by decide +kernel
theorem dL_law_2559 : decode cL_law 2559 = .ok (.iadd, 1) := by decide +kernel
theorem dL_law_2560 : decode cL_law 2560 = .ok (.iaload, 1) := by decide +kernel
theorem dL_law_2561 : decode cL_law 2561 = .ok (.aload_n 3, 1) := by decide +kernel
theorem dL_law_2562 : decode cL_law 2562 = .ok (.invokestatic 310, 3) := by decide +kernel
theorem dL_law_2565 : decode cL_law 2565 = .ok (.istore 6, 2) := by decide +kernel
theorem dL_law_2567 : decode cL_law 2567 = .ok (.aload_n 2, 1) := by decide +kernel
theorem dL_law_2568 : decode cL_law 2568 = .ok (.aload_n 0, 1) := by decide +kernel
theorem dL_law_2569 : decode cL_law 2569 = .ok (.iload 5, 2) := by decide +kernel
theorem dL_law_2571 : decode cL_law 2571 = .ok (.iconst 1, 1) := by decide +kernel
theorem dL_law_2572 : decode cL_law 2572 = .ok (.iadd, 1) := by decide +kernel
theorem dL_law_2573 : decode cL_law 2573 = .ok (.iaload, 1) := by decide +kernel
theorem dL_law_2574 : decode cL_law 2574 = .ok (.invokevirtual 312, 3) := by decide +kernel
theorem dL_law_2577 : decode cL_law 2577 = .ok (.istore 7, 2) := by decide +kernel
theorem dL_law_2579 : decode cL_law 2579 = .ok (.aload_n 2, 1) := by decide +kernel
theorem dL_law_2580 : decode cL_law 2580 = .ok (.invokevirtual 166, 3) := by decide +kernel
theorem dL_law_2583 : decode cL_law 2583 = .ok (.iload 6, 2) := by decide +kernel
theorem dL_law_2585 : decode cL_law 2585 = .ok (.if_icmp .eq 5, 3) := by decide +kernel
theorem dL_law_2588 : decode cL_law 2588 = .ok (.iconst 0, 1) := by decide +kernel
theorem dL_law_2589 : decode cL_law 2589 = .ok (.ireturn, 1) := by decide +kernel
theorem dL_law_2590 : decode cL_law 2590 = .ok (.iload 6, 2) := by decide +kernel
theorem dL_law_2592 : decode cL_law 2592 = .ok (.ifCond .ne 15, 3) := by decide +kernel
theorem dL_law_2595 : decode cL_law 2595 = .ok (.aload_n 3, 1) := by decide +kernel
theorem dL_law_2596 : decode cL_law 2596 = .ok (.iconst 0, 1) := by decide +kernel
theorem dL_law_2597 : decode cL_law 2597 = .ok (.laload, 1) := by decide +kernel
theorem dL_law_2598 : decode cL_law 2598 = .ok (.iload 7, 2) := by decide +kernel
theorem dL_law_2600 : decode cL_law 2600 = .ok (.i2l, 1) := by decide +kernel
theorem dL_law_2601 : decode cL_law 2601 = .ok (.lcmp, 1) := by decide +kernel
theorem dL_law_2602 : decode cL_law 2602 = .ok (.ifCond .eq 5, 3) := by decide +kernel
theorem dL_law_2605 : decode cL_law 2605 = .ok (.iconst 0, 1) := by decide +kernel
theorem dL_law_2606 : decode cL_law 2606 = .ok (.ireturn, 1) := by decide +kernel
theorem dL_law_2607 : decode cL_law 2607 = .ok (.goto 913, 3) := by decide +kernel
theorem dL_law_2610 : decode cL_law 2610 = .ok (.aload_n 1, 1) := by decide +kernel
theorem dL_law_2611 : decode cL_law 2611 = .ok (.aload_n 0, 1) := by decide +kernel
theorem dL_law_2612 : decode cL_law 2612 = .ok (.iload 5, 2) := by decide +kernel
theorem dL_law_2614 : decode cL_law 2614 = .ok (.iconst 1, 1) := by decide +kernel
theorem dL_law_2615 : decode cL_law 2615 = .ok (.iadd, 1) := by decide +kernel
theorem dL_law_2616 : decode cL_law 2616 = .ok (.iaload, 1) := by decide +kernel
theorem dL_law_2617 : decode cL_law 2617 = .ok (.aload 4, 2) := by decide +kernel
theorem dL_law_2619 : decode cL_law 2619 = .ok (.invokestatic 313, 3) := by decide +kernel
theorem dL_law_2622 : decode cL_law 2622 = .ok (.istore 6, 2) := by decide +kernel
theorem dL_law_2624 : decode cL_law 2624 = .ok (.aload_n 2, 1) := by decide +kernel
theorem dL_law_2625 : decode cL_law 2625 = .ok (.aload_n 0, 1) := by decide +kernel
theorem dL_law_2626 : decode cL_law 2626 = .ok (.iload 5, 2) := by decide +kernel
theorem dL_law_2628 : decode cL_law 2628 = .ok (.iconst 1, 1) := by decide +kernel
theorem dL_law_2629 : decode cL_law 2629 = .ok (.iadd, 1) := by decide +kernel
theorem dL_law_2630 : decode cL_law 2630 = .ok (.iaload, 1) := by decide +kernel
theorem dL_law_2631 : decode cL_law 2631 = .ok (.invokevirtual 315, 3) := by decide +kernel
theorem dL_law_2634 : decode cL_law 2634 = .ok (.fstore 7, 2) := by decide +kernel
theorem dL_law_2636 : decode cL_law 2636 = .ok (.aload_n 2, 1) := by decide +kernel
theorem dL_law_2637 : decode cL_law 2637 = .ok (.invokevirtual 166, 3) := by decide +kernel
theorem dL_law_2640 : decode cL_law 2640 = .ok (.iload 6, 2) := by decide +kernel
theorem dL_law_2642 : decode cL_law 2642 = .ok (.if_icmp .eq 5, 3) := by decide +kernel
theorem dL_law_2645 : decode cL_law 2645 = .ok (.iconst 0, 1) := by decide +kernel
theorem dL_law_2646 : decode cL_law 2646 = .ok (.ireturn, 1) := by decide +kernel
theorem dL_law_2647 : decode cL_law 2647 = .ok (.iload 6, 2) := by decide +kernel
theorem dL_law_2649 : decode cL_law 2649 = .ok (.ifCond .ne 36, 3) := by decide +kernel
theorem dL_law_2652 : decode cL_law 2652 = .ok (.aload 4, 2) := by decide +kernel
theorem dL_law_2654 : decode cL_law 2654 = .ok (.iconst 0, 1) := by decide +kernel
theorem dL_law_2655 : decode cL_law 2655 = .ok (.daload, 1) := by decide +kernel
theorem dL_law_2656 : decode cL_law 2656 = .ok (.fload 7, 2) := by decide +kernel
theorem dL_law_2658 : decode cL_law 2658 = .ok (.f2d, 1) := by decide +kernel
theorem dL_law_2659 : decode cL_law 2659 = .ok (.dcmp .l, 1) := by decide +kernel
theorem dL_law_2660 : decode cL_law 2660 = .ok (.ifCond .eq 25, 3) := by decide +kernel
theorem dL_law_2663 : decode cL_law 2663 = .ok (.aload 4, 2) := by decide +kernel
theorem dL_law_2665 : decode cL_law 2665 = .ok (.iconst 0, 1) := by decide +kernel
theorem dL_law_2666 : decode cL_law 2666 = .ok (.daload, 1) := by decide +kernel
theorem dL_law_2667 : decode cL_law 2667 = .ok (.aload 4, 2) := by decide +kernel
theorem dL_law_2669 : decode cL_law 2669 = .ok (.iconst 0, 1) := by decide +kernel
theorem dL_law_2670 : decode cL_law 2670 = .ok (.daload, 1) := by decide +kernel
theorem dL_law_2671 : decode cL_law 2671 = .ok (.dcmp .l, 1) := by decide +kernel
theorem dL_law_2672 : decode cL_law 2672 = .ok (.ifCond .eq 11, 3) := by decide +kernel
theorem dL_law_2675 : decode cL_law 2675 = .ok (.fload 7, 2) := by decide +kernel
theorem dL_law_2677 : decode cL_law 2677 = .ok (.fload 7, 2) := by decide +kernel
theorem dL_law_2679 : decode cL_law 2679 = .ok (.fcmp .l, 1) := by decide +kernel
theorem dL_law_2680 : decode cL_law 2680 = .ok (.ifCond .ne 5, 3) := by decide +kernel
theorem dL_law_2683 : decode cL_law 2683 = .ok (.iconst 0, 1) := by decide +kernel
theorem dL_law_2684 : decode cL_law 2684 = .ok (.ireturn, 1) := by decide +kernel
theorem dL_law_2685 : decode cL_law 2685 = .ok (.goto 835, 3) := by decide +kernel
theorem dL_law_2688 : decode cL_law 2688 = .ok (.aload_n 1, 1) := by decide +kernel
theorem dL_law_2689 : decode cL_law 2689 = .ok (.aload_n 0, 1) := by decide +kernel
theorem dL_law_2690 : decode cL_law 2690 = .ok (.iload 5, 2) := by decide +kernel
theorem dL_law_2692 : decode cL_law 2692 = .ok (.iconst 1, 1) := by decide +kernel
theorem dL_law_2693 : decode cL_law 2693 = .ok (.iadd, 1) := by decide +kernel
theorem dL_law_2694 : decode cL_law 2694 = .ok (.iaload, 1) := by decide +kernel
theorem dL_law_2695 : decode cL_law 2695 = .ok (.aload 4, 2) := by decide +kernel
theorem dL_law_2697 : decode cL_law 2697 = .ok (.invokestatic 316, 3) := by decide +kernel
theorem dL_law_2700 : decode cL_law 2700 = .ok (.istore 6, 2) := by decide +kernel
theorem dL_law_2702 : decode cL_law 2702 = .ok (.aload_n 2, 1) := by decide +kernel
theorem dL_law_2703 : decode cL_law 2703 = .ok (.aload_n 0, 1) := by decide +kernel
theorem dL_law_2704 : decode cL_law 2704 = .ok (.iload 5, 2) := by decide +kernel
theorem dL_law_2706 : decode cL_law 2706 = .ok (.iconst 1, 1) := by decide +kernel
theorem dL_law_2707 : decode cL_law 2707 = .ok (.iadd, 1) := by decide +kernel
theorem dL_law_2708 : decode cL_law 2708 = .ok (.iaload, 1) := by decide +kernel
theorem dL_law_2709 : decode cL_law 2709 = .ok (.invokevirtual 318, 3) := by decide +kernel
theorem dL_law_2712 : decode cL_law 2712 = .ok (.fstore 7, 2) := by decide +kernel
theorem dL_law_2714 : decode cL_law 2714 = .ok (.aload_n 2, 1) := by decide +kernel
theorem dL_law_2715 : decode cL_law 2715 = .ok (.invokevirtual 166, 3) := by decide +kernel
theorem dL_law_2718 : decode cL_law 2718 = .ok (.iload 6, 2) := by decide +kernel
theorem dL_law_2720 : decode cL_law 2720 = .ok (.if_icmp .eq 5, 3) := by decide +kernel
theorem dL_law_2723 : decode cL_law 2723 = .ok (.iconst 0, 1) := by decide +kernel
theorem dL_law_2724 : decode cL_law 2724 = .ok (.ireturn, 1) := by decide +kernel
theorem dL_law_2725 : decode cL_law 2725 = .ok (.iload 6, 2) := by decide +kernel
theorem dL_law_2727 : decode cL_law 2727 = .ok (.ifCond .ne 36, 3) := by decide +kernel
theorem dL_law_2730 : decode cL_law 2730 = .ok (.aload 4, 2) := by decide +kernel
theorem dL_law_2732 : decode cL_law 2732 = .ok (.iconst 0, 1) := by decide +kernel
theorem dL_law_2733 : decode cL_law 2733 = .ok (.daload, 1) := by decide +kernel
theorem dL_law_2734 : decode cL_law 2734 = .ok (.fload 7, 2) := by decide +kernel
theorem dL_law_2736 : decode cL_law 2736 = .ok (.f2d, 1) := by decide +kernel
theorem dL_law_2737 : decode cL_law 2737 = .ok (.dcmp .l, 1) := by decide +kernel
theorem dL_law_2738 : decode cL_law 2738 = .ok (.ifCond .eq 25, 3) := by decide +kernel
theorem dL_law_2741 : decode cL_law 2741 = .ok (.aload 4, 2) := by decide +kernel
theorem dL_law_2743 : decode cL_law 2743 = .ok (.iconst 0, 1) := by decide +kernel
theorem dL_law_2744 : decode cL_law 2744 = .ok (.daload, 1) := by decide +kernel
theorem dL_law_2745 : decode cL_law 2745 = .ok (.aload 4, 2) := by decide +kernel
theorem dL_law_2747 : decode cL_law 2747 = .ok (.iconst 0, 1) := by decide +kernel
theorem dL_law_2748 : decode cL_law 2748 = .ok (.daload, 1) := by decide +kernel
theorem dL_law_2749 : decode cL_law 2749 = .ok (.dcmp .l, 1) := by decide +kernel
theorem dL_law_2750 : decode cL_law 2750 = .ok (.ifCond .eq 11, 3) := by decide +kernel
theorem dL_law_2753 : decode cL_law 2753 = .ok (.fload 7, 2) := by decide +kernel
theorem dL_law_2755 : decode cL_law 2755 = .ok (.fload 7, 2) := by decide +kernel
theorem dL_law_2757 : decode cL_law 2757 = .ok (.fcmp .l, 1) := by decide +kernel
theorem dL_law_2758 : decode cL_law 2758 = .ok (.ifCond .ne 5, 3) := by decide +kernel
theorem dL_law_2761 : decode cL_law 2761 = .ok (.iconst 0, 1) := by decide +kernel
theorem dL_law_2762 : decode cL_law 2762 = .ok (.ireturn, 1) := by decide +kernel
theorem dL_law_2763 : decode cL_law 2763 = .ok (.goto 757, 3) := by decide +kernel
theorem dL_law_2766 : decode cL_law 2766 = .ok (.aload_n 1, 1) := by decide +kernel
theorem dL_law_2767 : decode cL_law 2767 = .ok (.invokevirtual 319, 3) := by decide +kernel
theorem dL_law_2770 : decode cL_law 2770 = .ok (.f2d, 1) := by decide +kernel
theorem dL_law_2771 : decode cL_law 2771 = .ok (.dstore 6, 2) := by decide +kernel
theorem dL_law_2773 : decode cL_law 2773 = .ok (.aload_n 2, 1) := by decide +kernel
theorem dL_law_2774 : decode cL_law 2774 = .ok (.invokevirtual 322, 3) := by decide +kernel
theorem dL_law_2777 : decode cL_law 2777 = .ok (.f2d, 1) := by decide +kernel
theorem dL_law_2778 : decode cL_law 2778 = .ok (.dstore 8, 2) := by decide +kernel
theorem dL_law_2780 : decode cL_law 2780 = .ok (.dload 6, 2) := by decide +kernel
theorem dL_law_2782 : decode cL_law 2782 = .ok (.dload 8, 2) := by decide +kernel
theorem dL_law_2784 : decode cL_law 2784 = .ok (.dcmp .l, 1) := by decide +kernel
theorem dL_law_2785 : decode cL_law 2785 = .ok (.ifCond .eq 21, 3) := by decide +kernel
theorem dL_law_2788 : decode cL_law 2788 = .ok (.dload 6, 2) := by decide +kernel
theorem dL_law_2790 : decode cL_law 2790 = .ok (.dload 6, 2) := by decide +kernel
theorem dL_law_2792 : decode cL_law 2792 = .ok (.dcmp .l, 1) := by decide +kernel
theorem dL_law_2793 : decode cL_law 2793 = .ok (.ifCond .eq 11, 3) := by decide +kernel
theorem dL_law_2796 : decode cL_law 2796 = .ok (.dload 8, 2) := by decide +kernel
theorem dL_law_2798 : decode cL_law 2798 = .ok (.dload 8, 2) := by decide +kernel
theorem dL_law_2800 : decode cL_law 2800 = .ok (.dcmp .l, 1) := by decide +kernel
theorem dL_law_2801 : decode cL_law 2801 = .ok (.ifCond .ne 5, 3) := by decide +kernel
theorem dL_law_2804 : decode cL_law 2804 = .ok (.iconst 0, 1) := by decide +kernel
theorem dL_law_2805 : decode cL_law 2805 = .ok (.ireturn, 1) := by decide +kernel
theorem dL_law_2806 : decode cL_law 2806 = .ok (.goto 714, 3) := by decide +kernel
theorem dL_law_2809 : decode cL_law 2809 = .ok (.aload_n 1, 1) := by decide +kernel
theorem dL_law_2810 : decode cL_law 2810 = .ok (.invokevirtual 323, 3) := by decide +kernel
theorem dL_law_2813 : decode cL_law 2813 = .ok (.f2d, 1) := by decide +kernel
theorem dL_law_2814 : decode cL_law 2814 = .ok (.dstore 6, 2) := by decide +kernel
theorem dL_law_2816 : decode cL_law 2816 = .ok (.aload_n 2, 1) := by decide +kernel
theorem dL_law_2817 : decode cL_law 2817 = .ok (.invokevirtual 326, 3) := by decide +kernel
theorem dL_law_2820 : decode cL_law 2820 = .ok (.f2d, 1) := by decide +kernel
theorem dL_law_2821 : decode cL_law 2821 = .ok (.dstore 8, 2) := by decide +kernel
theorem dL_law_2823 : decode cL_law 2823 = .ok (.dload 6, 2) := by decide +kernel
theorem dL_law_2825 : decode cL_law 2825 = .ok (.dload 8, 2) := by decide +kernel
theorem dL_law_2827 : decode cL_law 2827 = .ok (.dcmp .l, 1) := by decide +kernel
theorem dL_law_2828 : decode cL_law 2828 = .ok (.ifCond .eq 21, 3) := by decide +kernel
theorem dL_law_2831 : decode cL_law 2831 = .ok (.dload 6, 2) := by decide +kernel
theorem dL_law_2833 : decode cL_law 2833 = .ok (.dload 6, 2) := by decide +kernel
theorem dL_law_2835 : decode cL_law 2835 = .ok (.dcmp .l, 1) := by decide +kernel
theorem dL_law_2836 : decode cL_law 2836 = .ok (.ifCond .eq 11, 3) := by decide +kernel
theorem dL_law_2839 : decode cL_law 2839 = .ok (.dload 8, 2) := by decide +kernel
theorem dL_law_2841 : decode cL_law 2841 = .ok (.dload 8, 2) := by decide +kernel
theorem dL_law_2843 : decode cL_law 2843 = .ok (.dcmp .l, 1) := by decide +kernel
theorem dL_law_2844 : decode cL_law 2844 = .ok (.ifCond .ne 5, 3) := by decide +kernel
theorem dL_law_2847 : decode cL_law 2847 = .ok (.iconst 0, 1) := by decide +kernel
theorem dL_law_2848 : decode cL_law 2848 = .ok (.ireturn, 1) := by decide +kernel
theorem dL_law_2849 : decode cL_law 2849 = .ok (.goto 671, 3) := by decide +kernel
theorem dL_law_2852 : decode cL_law 2852 = .ok (.aload_n 1, 1) := by decide +kernel
theorem dL_law_2853 : decode cL_law 2853 = .ok (.invokevirtual 327, 3) := by decide +kernel
theorem dL_law_2856 : decode cL_law 2856 = .ok (.aload_n 2, 1) := by decide +kernel
theorem dL_law_2857 : decode cL_law 2857 = .ok (.invokevirtual 330, 3) := by decide +kernel
theorem dL_law_2860 : decode cL_law 2860 = .ok (.if_icmp .eq 660, 3) := by decide +kernel
theorem dL_law_2863 : decode cL_law 2863 = .ok (.iconst 0, 1) := by decide +kernel
theorem dL_law_2864 : decode cL_law 2864 = .ok (.ireturn, 1) := by decide +kernel
theorem dL_law_2865 : decode cL_law 2865 = .ok (.aload_n 1, 1) := by decide +kernel
theorem dL_law_2866 : decode cL_law 2866 = .ok (.invokevirtual 331, 3) := by decide +kernel
theorem dL_law_2869 : decode cL_law 2869 = .ok (.aload_n 2, 1) := by decide +kernel
theorem dL_law_2870 : decode cL_law 2870 = .ok (.invokevirtual 334, 3) := by decide +kernel
theorem dL_law_2873 : decode cL_law 2873 = .ok (.if_icmp .eq 647, 3) := by decide +kernel
theorem dL_law_2876 : decode cL_law 2876 = .ok (.iconst 0, 1) := by decide +kernel
theorem dL_law_2877 : decode cL_law 2877 = .ok (.ireturn, 1) := by decide +kernel
theorem dL_law_2878 : decode cL_law 2878 = .ok (.aload_n 1, 1) := by decide +kernel
theorem dL_law_2879 : decode cL_law 2879 = .ok (.invokevirtual 335, 3) := by decide +kernel
theorem dL_law_2882 : decode cL_law 2882 = .ok (.aload_n 2, 1) := by decide +kernel
theorem dL_law_2883 : decode cL_law 2883 = .ok (.invokevirtual 338, 3) := by decide +kernel
theorem dL_law_2886 : decode cL_law 2886 = .ok (.if_icmp .eq 634, 3) := by decide +kernel
theorem dL_law_2889 : decode cL_law 2889 = .ok (.iconst 0, 1) := by decide +kernel
theorem dL_law_2890 : decode cL_law 2890 = .ok (.ireturn, 1) := by decide +kernel
theorem dL_law_2891 : decode cL_law 2891 = .ok (.aload_n 1, 1) := by decide +kernel
theorem dL_law_2892 : decode cL_law 2892 = .ok (.aload 4, 2) := by decide +kernel
theorem dL_law_2894 : decode cL_law 2894 = .ok (.invokestatic 339, 3) := by decide +kernel
theorem dL_law_2897 : decode cL_law 2897 = .ok (.istore 6, 2) := by decide +kernel
theorem dL_law_2899 : decode cL_law 2899 = .ok (.aload_n 2, 1) := by decide +kernel
theorem dL_law_2900 : decode cL_law 2900 = .ok (.invokevirtual 341, 3) := by decide +kernel
theorem dL_law_2903 : decode cL_law 2903 = .ok (.dstore 7, 2) := by decide +kernel
theorem dL_law_2905 : decode cL_law 2905 = .ok (.aload_n 2, 1) := by decide +kernel
theorem dL_law_2906 : decode cL_law 2906 = .ok (.invokevirtual 166, 3) := by decide +kernel
theorem dL_law_2909 : decode cL_law 2909 = .ok (.iload 6, 2) := by decide +kernel
theorem dL_law_2911 : decode cL_law 2911 = .ok (.if_icmp .eq 5, 3) := by decide +kernel
theorem dL_law_2914 : decode cL_law 2914 = .ok (.iconst 0, 1) := by decide +kernel
theorem dL_law_2915 : decode cL_law 2915 = .ok (.ireturn, 1) := by decide +kernel
theorem dL_law_2916 : decode cL_law 2916 = .ok (.iload 6, 2) := by decide +kernel
theorem dL_law_2918 : decode cL_law 2918 = .ok (.ifCond .ne 35, 3) := by decide +kernel
theorem dL_law_2921 : decode cL_law 2921 = .ok (.aload 4, 2) := by decide +kernel
theorem dL_law_2923 : decode cL_law 2923 = .ok (.iconst 0, 1) := by decide +kernel
theorem dL_law_2924 : decode cL_law 2924 = .ok (.daload, 1) := by decide +kernel
theorem dL_law_2925 : decode cL_law 2925 = .ok (.dload 7, 2) := by decide +kernel
theorem dL_law_2927 : decode cL_law 2927 = .ok (.dcmp .l, 1) := by decide +kernel
theorem dL_law_2928 : decode cL_law 2928 = .ok (.ifCond .eq 25, 3) := by decide +kernel
theorem dL_law_2931 : decode cL_law 2931 = .ok (.aload 4, 2) := by decide +kernel
theorem dL_law_2933 : decode cL_law 2933 = .ok (.iconst 0, 1) := by decide +kernel
theorem dL_law_2934 : decode cL_law 2934 = .ok (.daload, 1) := by decide +kernel
theorem dL_law_2935 : decode cL_law 2935 = .ok (.aload 4, 2) := by decide +kernel
theorem dL_law_2937 : decode cL_law 2937 = .ok (.iconst 0, 1) := by decide +kernel
theorem dL_law_2938 : decode cL_law 2938 = .ok (.daload, 1) := by decide +kernel
theorem dL_law_2939 : decode cL_law 2939 = .ok (.dcmp .l, 1) := by decide +kernel
theorem dL_law_2940 : decode cL_law 2940 = .ok (.ifCond .eq 11, 3) := by decide +kernel
theorem dL_law_2943 : decode cL_law 2943 = .ok (.dload 7, 2) := by decide +kernel
theorem dL_law_2945 : decode cL_law 2945 = .ok (.dload 7, 2) := by decide +kernel
theorem dL_law_2947 : decode cL_law 2947 = .ok (.dcmp .l, 1) := by decide +kernel
theorem dL_law_2948 : decode cL_law 2948 = .ok (.ifCond .ne 5, 3) := by decide +kernel
theorem dL_law_2951 : decode cL_law 2951 = .ok (.iconst 0, 1) := by decide +kernel
theorem dL_law_2952 : decode cL_law 2952 = .ok (.ireturn, 1) := by decide +kernel
theorem dL_law_2953 : decode cL_law 2953 = .ok (.goto 567, 3) := by decide +kernel
theorem dL_law_2956 : decode cL_law 2956 = .ok (.aload_n 1, 1) := by decide +kernel
theorem dL_law_2957 : decode cL_law 2957 = .ok (.aload 4, 2) := by decide +kernel
theorem dL_law_2959 : decode cL_law 2959 = .ok (.invokestatic 342, 3) := by decide +kernel
theorem dL_law_2962 : decode cL_law 2962 = .ok (.istore 6, 2) := by decide +kernel
theorem dL_law_2964 : decode cL_law 2964 = .ok (.aload_n 2, 1) := by decide +kernel
theorem dL_law_2965 : decode cL_law 2965 = .ok (.invokevirtual 344, 3) := by decide +kernel
theorem dL_law_2968 : decode cL_law 2968 = .ok (.fstore 7, 2) := by decide +kernel
theorem dL_law_2970 : decode cL_law 2970 = .ok (.aload_n 2, 1) := by decide +kernel
theorem dL_law_2971 : decode cL_law 2971 = .ok (.invokevirtual 166, 3) := by decide +kernel
theorem dL_law_2974 : decode cL_law 2974 = .ok (.iload 6, 2) := by decide +kernel
theorem dL_law_2976 : decode cL_law 2976 = .ok (.if_icmp .eq 5, 3) := by decide +kernel
theorem dL_law_2979 : decode cL_law 2979 = .ok (.iconst 0, 1) := by decide +kernel
theorem dL_law_2980 : decode cL_law 2980 = .ok (.ireturn, 1) := by decide +kernel
theorem dL_law_2981 : decode cL_law 2981 = .ok (.iload 6, 2) := by decide +kernel
theorem dL_law_2983 : decode cL_law 2983 = .ok (.ifCond .ne 36, 3) := by decide +kernel
theorem dL_law_2986 : decode cL_law 2986 = .ok (.aload 4, 2) := by decide +kernel
theorem dL_law_2988 : decode cL_law 2988 = .ok (.iconst 0, 1) := by decide +kernel
theorem dL_law_2989 : decode cL_law 2989 = .ok (.daload, 1) := by decide +kernel
theorem dL_law_2990 : decode cL_law 2990 = .ok (.fload 7, 2) := by decide +kernel
theorem dL_law_2992 : decode cL_law 2992 = .ok (.f2d, 1) := by decide +kernel
theorem dL_law_2993 : decode cL_law 2993 = .ok (.dcmp .l, 1) := by decide +kernel
theorem dL_law_2994 : decode cL_law 2994 = .ok (.ifCond .eq 25, 3) := by decide +kernel
theorem dL_law_2997 : decode cL_law 2997 = .ok (.aload 4, 2) := by decide +kernel
theorem dL_law_2999 : decode cL_law 2999 = .ok (.iconst 0, 1) := by decide +kernel
theorem dL_law_3000 : decode cL_law 3000 = .ok (.daload, 1) := by decide +kernel
theorem dL_law_3001 : decode cL_law 3001 = .ok (.aload 4, 2) := by decide +kernel
theorem dL_law_3003 : decode cL_law 3003 = .ok (.iconst 0, 1) := by decide +kernel
theorem dL_law_3004 : decode cL_law 3004 = .ok (.daload, 1) := by decide +kernel
theorem dL_law_3005 : decode cL_law 3005 = .ok (.dcmp .l, 1) := by decide +kernel
theorem dL_law_3006 : decode cL_law 3006 = .ok (.ifCond .eq 11, 3) := by decide +kernel
theorem dL_law_3009 : decode cL_law 3009 = .ok (.fload 7, 2) := by decide +kernel
theorem dL_law_3011 : decode cL_law 3011 = .ok (.fload 7, 2) := by decide +kernel
theorem dL_law_3013 : decode cL_law 3013 = .ok (.fcmp .l, 1) := by decide +kernel
theorem dL_law_3014 : decode cL_law 3014 = .ok (.ifCond .ne 5, 3) := by decide +kernel
theorem dL_law_3017 : decode cL_law 3017 = .ok (.iconst 0, 1) := by decide +kernel
theorem dL_law_3018 : decode cL_law 3018 = .ok (.ireturn, 1) := by decide +kernel
theorem dL_law_3019 : decode cL_law 3019 = .ok (.goto 501, 3) := by decide +kernel
theorem dL_law_3022 : decode cL_law 3022 = .ok (.aload_n 1, 1) := by decide +kernel
theorem dL_law_3023 : decode cL_law 3023 = .ok (.invokevirtual 345, 3) := by decide +kernel
theorem dL_law_3026 : decode cL_law 3026 = .ok (.aload_n 2, 1) := by decide +kernel
theorem dL_law_3027 : decode cL_law 3027 = .ok (.invokevirtual 348, 3) := by decide +kernel
theorem dL_law_3030 : decode cL_law 3030 = .ok (.if_icmp .eq 490, 3) := by decide +kernel
theorem dL_law_3033 : decode cL_law 3033 = .ok (.iconst 0, 1) := by decide +kernel
theorem dL_law_3034 : decode cL_law 3034 = .ok (.ireturn, 1) := by decide +kernel
theorem dL_law_3035 : decode cL_law 3035 = .ok (.aload_n 1, 1) := by decide +kernel
theorem dL_law_3036 : decode cL_law 3036 = .ok (.aload_n 0, 1) := by decide +kernel
theorem dL_law_3037 : decode cL_law 3037 = .ok (.iload 5, 2) := by decide +kernel
theorem dL_law_3039 : decode cL_law 3039 = .ok (.iconst 1, 1) := by decide +kernel
theorem dL_law_3040 : decode cL_law 3040 = .ok (.iadd, 1) := by decide +kernel
theorem dL_law_3041 : decode cL_law 3041 = .ok (.iaload, 1) := by decide +kernel
theorem dL_law_3042 : decode cL_law 3042 = .ok (.aload_n 3, 1) := by decide +kernel
theorem dL_law_3043 : decode cL_law 3043 = .ok (.invokestatic 349, 3) := by decide +kernel
theorem dL_law_3046 : decode cL_law 3046 = .ok (.istore 6, 2) := by decide +kernel
theorem dL_law_3048 : decode cL_law 3048 = .ok (.aload_n 2, 1) := by decide +kernel
theorem dL_law_3049 : decode cL_law 3049 = .ok (.aload_n 0, 1) := by decide +kernel
theorem dL_law_3050 : decode cL_law 3050 = .ok (.iload 5, 2) := by decide +kernel
theorem dL_law_3052 : decode cL_law 3052 = .ok (.iconst 1, 1) := by decide +kernel
theorem dL_law_3053 : decode cL_law 3053 = .ok (.iadd, 1) := by decide +kernel
theorem dL_law_3054 : decode cL_law 3054 = .ok (.iaload, 1) := by decide +kernel
theorem dL_law_3055 : decode cL_law 3055 = .ok (.invokevirtual 351, 3) := by decide +kernel
theorem dL_law_3058 : decode cL_law 3058 = .ok (.istore 7, 2) := by decide +kernel
theorem dL_law_3060 : decode cL_law 3060 = .ok (.aload_n 2, 1) := by decide +kernel
theorem dL_law_3061 : decode cL_law 3061 = .ok (.invokevirtual 166, 3) := by decide +kernel
theorem dL_law_3064 : decode cL_law 3064 = .ok (.iload 6, 2) := by decide +kernel
theorem dL_law_3066 : decode cL_law 3066 = .ok (.if_icmp .eq 5, 3) := by decide +kernel
theorem dL_law_3069 : decode cL_law 3069 = .ok (.iconst 0, 1) := by decide +kernel
theorem dL_law_3070 : decode cL_law 3070 = .ok (.ireturn, 1) := by decide +kernel
theorem dL_law_3071 : decode cL_law 3071 = .ok (.iload 6, 2) := by decide +kernel
theorem dL_law_3073 : decode cL_law 3073 = .ok (.ifCond .ne 15, 3) := by decide +kernel
theorem dL_law_3076 : decode cL_law 3076 = .ok (.aload_n 3, 1) := by decide +kernel
theorem dL_law_3077 : decode cL_law 3077 = .ok (.iconst 0, 1) := by decide +kernel
theorem dL_law_3078 : decode cL_law 3078 = .ok (.laload, 1) := by decide +kernel
theorem dL_law_3079 : decode cL_law 3079 = .ok (.iload 7, 2) := by decide +kernel
theorem dL_law_3081 : decode cL_law 3081 = .ok (.i2l, 1) := by decide +kernel
theorem dL_law_3082 : decode cL_law 3082 = .ok (.lcmp, 1) := by decide +kernel
theorem dL_law_3083 : decode cL_law 3083 = .ok (.ifCond .eq 5, 3) := by decide +kernel
theorem dL_law_3086 : decode cL_law 3086 = .ok (.iconst 0, 1) := by decide +kernel
theorem dL_law_3087 : decode cL_law 3087 = .ok (.ireturn, 1) := by decide +kernel
theorem dL_law_3088 : decode cL_law 3088 = .ok (.goto 432, 3) := by decide +kernel
theorem dL_law_3091 : decode cL_law 3091 = .ok (.aload_n 1, 1) := by decide +kernel
theorem dL_law_3092 : decode cL_law 3092 = .ok (.aload_n 0, 1) := by decide +kernel
theorem dL_law_3093 : decode cL_law 3093 = .ok (.iload 5, 2) := by decide +kernel
theorem dL_law_3095 : decode cL_law 3095 = .ok (.iconst 1, 1) := by decide +kernel
theorem dL_law_3096 : decode cL_law 3096 = .ok (.iadd, 1) := by decide +kernel
theorem dL_law_3097 : decode cL_law 3097 = .ok (.iaload, 1) := by decide +kernel
theorem dL_law_3098 : decode cL_law 3098 = .ok (.aload_n 3, 1) := by decide +kernel
theorem dL_law_3099 : decode cL_law 3099 = .ok (.invokestatic 352, 3) := by decide +kernel
theorem dL_law_3102 : decode cL_law 3102 = .ok (.istore 6, 2) := by decide +kernel
theorem dL_law_3104 : decode cL_law 3104 = .ok (.aload_n 2, 1) := by decide +kernel
theorem dL_law_3105 : decode cL_law 3105 = .ok (.aload_n 0, 1) := by decide +kernel
theorem dL_law_3106 : decode cL_law 3106 = .ok (.iload 5, 2) := by decide +kernel
theorem dL_law_3108 : decode cL_law 3108 = .ok (.iconst 1, 1) := by decide +kernel
theorem dL_law_3109 : decode cL_law 3109 = .ok (.iadd, 1) := by decide +kernel
theorem dL_law_3110 : decode cL_law 3110 = .ok (.iaload, 1) := by decide +kernel
theorem dL_law_3111 : decode cL_law 3111 = .ok (.invokevirtual 354, 3) := by decide +kernel
theorem dL_law_3114 : decode cL_law 3114 = .ok (.istore 7, 2) := by decide +kernel
theorem dL_law_3116 : decode cL_law 3116 = .ok (.aload_n 2, 1) := by decide +kernel
theorem dL_law_3117 : decode cL_law 3117 = .ok (.invokevirtual 166, 3) := by decide +kernel
theorem dL_law_3120 : decode cL_law 3120 = .ok (.iload 6, 2) := by decide +kernel
theorem dL_law_3122 : decode cL_law 3122 = .ok (.if_icmp .eq 5, 3) := by decide +kernel
theorem dL_law_3125 : decode cL_law 3125 = .ok (.iconst 0, 1) := by decide +kernel
theorem dL_law_3126 : decode cL_law 3126 = .ok (.ireturn, 1) := by decide +kernel
theorem dL_law_3127 : decode cL_law 3127 = .ok (.iload 6, 2) := by decide +kernel
theorem dL_law_3129 : decode cL_law 3129 = .ok (.ifCond .ne 15, 3) := by decide +kernel
theorem dL_law_3132 : decode cL_law 3132 = .ok (.aload_n 3, 1) := by decide +kernel
theorem dL_law_3133 : decode cL_law 3133 = .ok (.iconst 0, 1) := by decide +kernel
theorem dL_law_3134 : decode cL_law 3134 = .ok (.laload, 1) := by decide +kernel
theorem dL_law_3135 : decode cL_law 3135 = .ok (.iload 7, 2) := by decide +kernel
theorem dL_law_3137 : decode cL_law 3137 = .ok (.i2l, 1) := by decide +kernel
theorem dL_law_3138 : decode cL_law 3138 = .ok (.lcmp, 1) := by decide +kernel
theorem dL_law_3139 : decode cL_law 3139 = .ok (.ifCond .eq 5, 3) := by decide +kernel
theorem dL_law_3142 : decode cL_law 3142 = .ok (.iconst 0, 1) := by decide +kernel
theorem dL_law_3143 : decode cL_law 3143 = .ok (.ireturn, 1) := by decide +kernel
theorem dL_law_3144 : decode cL_law 3144 = .ok (.goto 376, 3) := by decide +kernel
theorem dL_law_3147 : decode cL_law 3147 = .ok (.aload_n 1, 1) := by decide +kernel
theorem dL_law_3148 : decode cL_law 3148 = .ok (.invokevirtual 355, 3) := by decide +kernel
theorem dL_law_3151 : decode cL_law 3151 = .ok (.aload_n 2, 1) := by decide +kernel
theorem dL_law_3152 : decode cL_law 3152 = .ok (.invokevirtual 358, 3) := by decide +kernel
theorem dL_law_3155 : decode cL_law 3155 = .ok (.if_icmp .eq 365, 3) := by decide +kernel
theorem dL_law_3158 : decode cL_law 3158 = .ok (.iconst 0, 1) := by decide +kernel
theorem dL_law_3159 : decode cL_law 3159 = .ok (.ireturn, 1) := by decide +kernel
theorem dL_law_3160 : decode cL_law 3160 = .ok (.aload_n 1, 1) := by decide +kernel
theorem dL_law_3161 : decode cL_law 3161 = .ok (.aload_n 0, 1) := by decide +kernel
theorem dL_law_3162 : decode cL_law 3162 = .ok (.iload 5, 2) := by decide +kernel
theorem dL_law_3164 : decode cL_law 3164 = .ok (.iconst 1, 1) := by decide +kernel
theorem dL_law_3165 : decode cL_law 3165 = .ok (.iadd, 1) := by decide +kernel
theorem dL_law_3166 : decode cL_law 3166 = .ok (.iaload, 1) := by decide +kernel
theorem dL_law_3167 : decode cL_law 3167 = .ok (.aload_n 3, 1) := by decide +kernel
theorem dL_law_3168 : decode cL_law 3168 = .ok (.invokestatic 359, 3) := by decide +kernel
theorem dL_law_3171 : decode cL_law 3171 = .ok (.istore 6, 2) := by decide +kernel
theorem dL_law_3173 : decode cL_law 3173 = .ok (.aload_n 2, 1) := by decide +kernel
theorem dL_law_3174 : decode cL_law 3174 = .ok (.aload_n 0, 1) := by decide +kernel
theorem dL_law_3175 : decode cL_law 3175 = .ok (.iload 5, 2) := by decide +kernel
theorem dL_law_3177 : decode cL_law 3177 = .ok (.iconst 1, 1) := by decide +kernel
theorem dL_law_3178 : decode cL_law 3178 = .ok (.iadd, 1) := by decide +kernel
theorem dL_law_3179 : decode cL_law 3179 = .ok (.iaload, 1) := by decide +kernel
theorem dL_law_3180 : decode cL_law 3180 = .ok (.invokevirtual 361, 3) := by decide +kernel
theorem dL_law_3183 : decode cL_law 3183 = .ok (.istore 7, 2) := by decide +kernel
theorem dL_law_3185 : decode cL_law 3185 = .ok (.aload_n 2, 1) := by decide +kernel
theorem dL_law_3186 : decode cL_law 3186 = .ok (.invokevirtual 166, 3) := by decide +kernel
theorem dL_law_3189 : decode cL_law 3189 = .ok (.iload 6, 2) := by decide +kernel
theorem dL_law_3191 : decode cL_law 3191 = .ok (.if_icmp .eq 5, 3) := by decide +kernel
theorem dL_law_3194 : decode cL_law 3194 = .ok (.iconst 0, 1) := by decide +kernel
theorem dL_law_3195 : decode cL_law 3195 = .ok (.ireturn, 1) := by decide +kernel
theorem dL_law_3196 : decode cL_law 3196 = .ok (.iload 6, 2) := by decide +kernel
theorem dL_law_3198 : decode cL_law 3198 = .ok (.ifCond .ne 15, 3) := by decide +kernel
theorem dL_law_3201 : decode cL_law 3201 = .ok (.aload_n 3, 1) := by decide +kernel
theorem dL_law_3202 : decode cL_law 3202 = .ok (.iconst 0, 1) := by decide +kernel
theorem dL_law_3203 : decode cL_law 3203 = .ok (.laload, 1) := by decide +kernel
theorem dL_law_3204 : decode cL_law 3204 = .ok (.iload 7, 2) := by decide +kernel
theorem dL_law_3206 : decode cL_law 3206 = .ok (.i2l, 1) := by decide +kernel
theorem dL_law_3207 : decode cL_law 3207 = .ok (.lcmp, 1) := by decide +kernel
theorem dL_law_3208 : decode cL_law 3208 = .ok (.ifCond .eq 5, 3) := by decide +kernel
theorem dL_law_3211 : decode cL_law 3211 = .ok (.iconst 0, 1) := by decide +kernel
theorem dL_law_3212 : decode cL_law 3212 = .ok (.ireturn, 1) := by decide +kernel
theorem dL_law_3213 : decode cL_law 3213 = .ok (.goto 307, 3) := by decide +kernel
theorem dL_law_3216 : decode cL_law 3216 = .ok (.aload_n 1, 1) := by decide +kernel
theorem dL_law_3217 : decode cL_law 3217 = .ok (.aload_n 0, 1) := by decide +kernel
theorem dL_law_3218 : decode cL_law 3218 = .ok (.iload 5, 2) := by decide +kernel
theorem dL_law_3220 : decode cL_law 3220 = .ok (.iconst 1, 1) := by decide +kernel
theorem dL_law_3221 : decode cL_law 3221 = .ok (.iadd, 1) := by decide +kernel
theorem dL_law_3222 : decode cL_law 3222 = .ok (.iaload, 1) := by decide +kernel
theorem dL_law_3223 : decode cL_law 3223 = .ok (.i2c, 1) := by decide +kernel
theorem dL_law_3224 : decode cL_law 3224 = .ok (.aload_n 3, 1) := by decide +kernel
theorem dL_law_3225 : decode cL_law 3225 = .ok (.invokestatic 362, 3) := by decide +kernel
theorem dL_law_3228 : decode cL_law 3228 = .ok (.istore 6, 2) := by decide +kernel
theorem dL_law_3230 : decode cL_law 3230 = .ok (.aload_n 2, 1) := by decide +kernel
theorem dL_law_3231 : decode cL_law 3231 = .ok (.aload_n 0, 1) := by decide +kernel
theorem dL_law_3232 : decode cL_law 3232 = .ok (.iload 5, 2) := by decide +kernel
theorem dL_law_3234 : decode cL_law 3234 = .ok (.iconst 1, 1) := by decide +kernel
theorem dL_law_3235 : decode cL_law 3235 = .ok (.iadd, 1) := by decide +kernel
theorem dL_law_3236 : decode cL_law 3236 = .ok (.iaload, 1) := by decide +kernel
theorem dL_law_3237 : decode cL_law 3237 = .ok (.i2c, 1) := by decide +kernel
theorem dL_law_3238 : decode cL_law 3238 = .ok (.invokevirtual 365, 3) := by decide +kernel
theorem dL_law_3241 : decode cL_law 3241 = .ok (.istore 7, 2) := by decide +kernel
theorem dL_law_3243 : decode cL_law 3243 = .ok (.aload_n 2, 1) := by decide +kernel
theorem dL_law_3244 : decode cL_law 3244 = .ok (.invokevirtual 166, 3) := by decide +kernel
theorem dL_law_3247 : decode cL_law 3247 = .ok (.iload 6, 2) := by decide +kernel
theorem dL_law_3249 : decode cL_law 3249 = .ok (.if_icmp .eq 5, 3) := by decide +kernel
theorem dL_law_3252 : decode cL_law 3252 = .ok (.iconst 0, 1) := by decide +kernel
theorem dL_law_3253 : decode cL_law 3253 = .ok (.ireturn, 1) := by decide +kernel
theorem dL_law_3254 : decode cL_law 3254 = .ok (.iload 6, 2) := by decide +kernel
theorem dL_law_3256 : decode cL_law 3256 = .ok (.ifCond .ne 15, 3) := by decide +kernel
theorem dL_law_3259 : decode cL_law 3259 = .ok (.aload_n 3, 1) := by decide +kernel
theorem dL_law_3260 : decode cL_law 3260 = .ok (.iconst 0, 1) := by decide +kernel
theorem dL_law_3261 : decode cL_law 3261 = .ok (.laload, 1) := by decide +kernel
theorem dL_law_3262 : decode cL_law 3262 = .ok (.iload 7, 2) := by decide +kernel
theorem dL_law_3264 : decode cL_law 3264 = .ok (.i2l, 1) := by decide +kernel
theorem dL_law_3265 : decode cL_law 3265 = .ok (.lcmp, 1) := by decide +kernel
theorem dL_law_3266 : decode cL_law 3266 = .ok (.ifCond .eq 5, 3) := by decide +kernel
theorem dL_law_3269 : decode cL_law 3269 = .ok (.iconst 0, 1) := by decide +kernel
theorem dL_law_3270 : decode cL_law 3270 = .ok (.ireturn, 1) := by decide +kernel
theorem dL_law_3271 : decode cL_law 3271 = .ok (.goto 249, 3) := by decide +kernel
theorem dL_law_3274 : decode cL_law 3274 = .ok (.aload_n 1, 1) := by decide +kernel
theorem dL_law_3275 : decode cL_law 3275 = .ok (.aload_n 3, 1) := by decide +kernel
theorem dL_law_3276 : decode cL_law 3276 = .ok (.invokestatic 366, 3) := by decide +kernel
theorem dL_law_3279 : decode cL_law 3279 = .ok (.istore 6, 2) := by decide +kernel
theorem dL_law_3281 : decode cL_law 3281 = .ok (.aload_n 2, 1) := by decide +kernel
theorem dL_law_3282 : decode cL_law 3282 = .ok (.invokevirtual 368, 3) := by decide +kernel
theorem dL_law_3285 : decode cL_law 3285 = .ok (.istore 7, 2) := by decide +kernel
theorem dL_law_3287 : decode cL_law 3287 = .ok (.aload_n 2, 1) := by decide +kernel
theorem dL_law_3288 : decode cL_law 3288 = .ok (.invokevirtual 166, 3) := by decide +kernel
theorem dL_law_3291 : decode cL_law 3291 = .ok (.iload 6, 2) := by decide +kernel
theorem dL_law_3293 : decode cL_law 3293 = .ok (.if_icmp .eq 5, 3) := by decide +kernel
theorem dL_law_3296 : decode cL_law 3296 = .ok (.iconst 0, 1) := by decide +kernel
theorem dL_law_3297 : decode cL_law 3297 = .ok (.ireturn, 1) := by decide +kernel
theorem dL_law_3298 : decode cL_law 3298 = .ok (.iload 6, 2) := by decide +kernel
theorem dL_law_3300 : decode cL_law 3300 = .ok (.ifCond .ne 15, 3) := by decide +kernel
theorem dL_law_3303 : decode cL_law 3303 = .ok (.aload_n 3, 1) := by decide +kernel
theorem dL_law_3304 : decode cL_law 3304 = .ok (.iconst 0, 1) := by decide +kernel
theorem dL_law_3305 : decode cL_law 3305 = .ok (.laload, 1) := by decide +kernel
theorem dL_law_3306 : decode cL_law 3306 = .ok (.iload 7, 2) := by decide +kernel
theorem dL_law_3308 : decode cL_law 3308 = .ok (.i2l, 1) := by decide +kernel
theorem dL_law_3309 : decode cL_law 3309 = .ok (.lcmp, 1) := by decide +kernel
theorem dL_law_3310 : decode cL_law 3310 = .ok (.ifCond .eq 5, 3) := by decide +kernel
theorem dL_law_3313 : decode cL_law 3313 = .ok (.iconst 0, 1) := by decide +kernel
theorem dL_law_3314 : decode cL_law 3314 = .ok (.ireturn, 1) := by decide +kernel
theorem dL_law_3315 : decode cL_law 3315 = .ok (.goto 205, 3) := by decide +kernel
theorem dL_law_3318 : decode cL_law 3318 = .ok (.aload_n 1, 1) := by decide +kernel
theorem dL_law_3319 : decode cL_law 3319 = .ok (.aload_n 3, 1) := by decide +kernel
theorem dL_law_3320 : decode cL_law 3320 = .ok (.invokestatic 369, 3) := by decide +kernel
theorem dL_law_3323 : decode cL_law 3323 = .ok (.istore 6, 2) := by decide +kernel
theorem dL_law_3325 : decode cL_law 3325 = .ok (.aload_n 2, 1) := by decide +kernel
theorem dL_law_3326 : decode cL_law 3326 = .ok (.invokevirtual 371, 3) := by decide +kernel
theorem dL_law_3329 : decode cL_law 3329 = .ok (.istore 7, 2) := by decide +kernel
theorem dL_law_3331 : decode cL_law 3331 = .ok (.aload_n 2, 1) := by decide +kernel
theorem dL_law_3332 : decode cL_law 3332 = .ok (.invokevirtual 166, 3) := by decide +kernel
theorem dL_law_3335 : decode cL_law 3335 = .ok (.iload 6, 2) := by decide +kernel
theorem dL_law_3337 : decode cL_law 3337 = .ok (.if_icmp .eq 5, 3) := by decide +kernel
theorem dL_law_3340 : decode cL_law 3340 = .ok (.iconst 0, 1) := by decide +kernel
theorem dL_law_3341 : decode cL_law 3341 = .ok (.ireturn, 1) := by decide +kernel
theorem dL_law_3342 : decode cL_law 3342 = .ok (.iload 6, 2) := by decide +kernel
theorem dL_law_3344 : decode cL_law 3344 = .ok (.ifCond .ne 15, 3) := by decide +kernel
theorem dL_law_3347 : decode cL_law 3347 = .ok (.aload_n 3, 1) := by decide +kernel
theorem dL_law_3348 : decode cL_law 3348 = .ok (.iconst 0, 1) := by decide +kernel
theorem dL_law_3349 : decode cL_law 3349 = .ok (.laload, 1) := by decide +kernel
theorem dL_law_3350 : decode cL_law 3350 = .ok (.iload 7, 2) := by decide +kernel
theorem dL_law_3352 : decode cL_law 3352 = .ok (.i2l, 1) := by decide +kernel
theorem dL_law_3353 : decode cL_law 3353 = .ok (.lcmp, 1) := by decide +kernel
theorem dL_law_3354 : decode cL_law 3354 = .ok (.ifCond .eq 5, 3) := by decide +kernel
theorem dL_law_3357 : decode cL_law 3357 = .ok (.iconst 0, 1) := by decide +kernel
theorem dL_law_3358 : decode cL_law 3358 = .ok (.ireturn, 1) := by decide +kernel
theorem dL_law_3359 : decode cL_law 3359 = .ok (.goto 161, 3) := by decide +kernel
theorem dL_law_3362 : decode cL_law 3362 = .ok (.aload_n 1, 1) := by decide +kernel
theorem dL_law_3363 : decode cL_law 3363 = .ok (.aload_n 3, 1) := by decide +kernel
theorem dL_law_3364 : decode cL_law 3364 = .ok (.invokestatic 372, 3) := by decide +kernel
theorem dL_law_3367 : decode cL_law 3367 = .ok (.istore 6, 2) := by decide +kernel
theorem dL_law_3369 : decode cL_law 3369 = .ok (.aload_n 2, 1) := by decide +kernel
theorem dL_law_3370 : decode cL_law 3370 = .ok (.invokevirtual 374, 3) := by decide +kernel
theorem dL_law_3373 : decode cL_law 3373 = .ok (.istore 7, 2) := by decide +kernel
theorem dL_law_3375 : decode cL_law 3375 = .ok (.aload_n 2, 1) := by decide +kernel
theorem dL_law_3376 : decode cL_law 3376 = .ok (.invokevirtual 166, 3) := by decide +kernel
theorem dL_law_3379 : decode cL_law 3379 = .ok (.iload 6, 2) := by decide +kernel
theorem dL_law_3381 : decode cL_law 3381 = .ok (.if_icmp .eq 5, 3) := by decide +kernel
theorem dL_law_3384 : decode cL_law 3384 = .ok (.iconst 0, 1) := by decide +kernel
theorem dL_law_3385 : decode cL_law 3385 = .ok (.ireturn, 1) := by decide +kernel
theorem dL_law_3386 : decode cL_law 3386 = .ok (.iload 6, 2) := by decide +kernel
theorem dL_law_3388 : decode cL_law 3388 = .ok (.ifCond .ne 15, 3) := by decide +kernel
theorem dL_law_3391 : decode cL_law 3391 = .ok (.aload_n 3, 1) := by decide +kernel
theorem dL_law_3392 : decode cL_law 3392 = .ok (.iconst 0, 1) := by decide +kernel
theorem dL_law_3393 : decode cL_law 3393 = .ok (.laload, 1) := by decide +kernel
theorem dL_law_3394 : decode cL_law 3394 = .ok (.iload 7, 2) := by decide +kernel
theorem dL_law_3396 : decode cL_law 3396 = .ok (.i2l, 1) := by decide +kernel
theorem dL_law_3397 : decode cL_law 3397 = .ok (.lcmp, 1) := by decide +kernel
theorem dL_law_3398 : decode cL_law 3398 = .ok (.ifCond .eq 5, 3) := by decide +kernel
theorem dL_law_3401 : decode cL_law 3401 = .ok (.iconst 0, 1) := by decide +kernel
theorem dL_law_3402 : decode cL_law 3402 = .ok (.ireturn, 1) := by decide +kernel
theorem dL_law_3403 : decode cL_law 3403 = .ok (.goto 117, 3) := by decide +kernel
theorem dL_law_3406 : decode cL_law 3406 = .ok (.aload_n 1, 1) := by decide +kernel
theorem dL_law_3407 : decode cL_law 3407 = .ok (.invokevirtual 375, 3) := by decide +kernel
theorem dL_law_3410 : decode cL_law 3410 = .ok (.aload_n 2, 1) := by decide +kernel
theorem dL_law_3411 : decode cL_law 3411 = .ok (.invokevirtual 378, 3) := by decide +kernel
theorem dL_law_3414 : decode cL_law 3414 = .ok (.if_icmp .eq 106, 3) := by decide +kernel
theorem dL_law_3417 : decode cL_law 3417 = .ok (.iconst 0, 1) := by decide +kernel
theorem dL_law_3418 : decode cL_law 3418 = .ok (.ireturn, 1) := by decide +kernel
theorem dL_law_3419 : decode cL_law 3419 = .ok (.aload_n 1, 1) := by decide +kernel
theorem dL_law_3420 : decode cL_law 3420 = .ok (.aload_n 3, 1) := by decide +kernel
theorem dL_law_3421 : decode cL_law 3421 = .ok (.invokestatic 379, 3) := by decide +kernel
theorem dL_law_3424 : decode cL_law 3424 = .ok (.istore 6, 2) := by decide +kernel
theorem dL_law_3426 : decode cL_law 3426 = .ok (.aload_n 2, 1) := by decide +kernel
theorem dL_law_3427 : decode cL_law 3427 = .ok (.invokevirtual 381, 3) := by decide +kernel
theorem dL_law_3430 : decode cL_law 3430 = .ok (.istore 7, 2) := by decide +kernel
theorem dL_law_3432 : decode cL_law 3432 = .ok (.aload_n 2, 1) := by decide +kernel
theorem dL_law_3433 : decode cL_law 3433 = .ok (.invokevirtual 166, 3) := by decide +kernel
theorem dL_law_3436 : decode cL_law 3436 = .ok (.iload 6, 2) := by decide +kernel
theorem dL_law_3438 : decode cL_law 3438 = .ok (.if_icmp .eq 5, 3) := by decide +kernel
theorem dL_law_3441 : decode cL_law 3441 = .ok (.iconst 0, 1) := by decide +kernel
theorem dL_law_3442 : decode cL_law 3442 = .ok (.ireturn, 1) := by decide +kernel
theorem dL_law_3443 : decode cL_law 3443 = .ok (.iload 6, 2) := by decide +kernel
theorem dL_law_3445 : decode cL_law 3445 = .ok (.ifCond .ne 15, 3) := by decide +kernel
theorem dL_law_3448 : decode cL_law 3448 = .ok (.aload_n 3, 1) := by decide +kernel
theorem dL_law_3449 : decode cL_law 3449 = .ok (.iconst 0, 1) := by decide +kernel
theorem dL_law_3450 : decode cL_law 3450 = .ok (.laload, 1) := by decide +kernel
theorem dL_law_3451 : decode cL_law 3451 = .ok (.iload 7, 2) := by decide +kernel
theorem dL_law_3453 : decode cL_law 3453 = .ok (.i2l, 1) := by decide +kernel
theorem dL_law_3454 : decode cL_law 3454 = .ok (.lcmp, 1) := by decide +kernel
theorem dL_law_3455 : decode cL_law 3455 = .ok (.ifCond .eq 5, 3) := by decide +kernel
theorem dL_law_3458 : decode cL_law 3458 = .ok (.iconst 0, 1) := by decide +kernel
theorem dL_law_3459 : decode cL_law 3459 = .ok (.ireturn, 1) := by decide +kernel
theorem dL_law_3460 : decode cL_law 3460 = .ok (.goto 60, 3) := by decide +kernel
theorem dL_law_3463 : decode cL_law 3463 = .ok (.aload_n 1, 1) := by decide +kernel
theorem dL_law_3464 : decode cL_law 3464 = .ok (.invokevirtual 382, 3) := by decide +kernel
theorem dL_law_3467 : decode cL_law 3467 = .ok (.aload_n 2, 1) := by decide +kernel
theorem dL_law_3468 : decode cL_law 3468 = .ok (.invokevirtual 385, 3) := by decide +kernel
theorem dL_law_3471 : decode cL_law 3471 = .ok (.if_icmp .eq 49, 3) := by decide +kernel
theorem dL_law_3474 : decode cL_law 3474 = .ok (.iconst 0, 1) := by decide +kernel
theorem dL_law_3475 : decode cL_law 3475 = .ok (.ireturn, 1) := by decide +kernel
theorem dL_law_3476 : decode cL_law 3476 = .ok (.aload_n 1, 1) := by decide +kernel
theorem dL_law_3477 : decode cL_law 3477 = .ok (.aload_n 3, 1) := by decide +kernel
theorem dL_law_3478 : decode cL_law 3478 = .ok (.invokestatic 386, 3) := by decide +kernel
theorem dL_law_3481 : decode cL_law 3481 = .ok (.istore 6, 2) := by decide +kernel
theorem dL_law_3483 : decode cL_law 3483 = .ok (.aload_n 2, 1) := by decide +kernel
theorem dL_law_3484 : decode cL_law 3484 = .ok (.invokevirtual 388, 3) := by decide +kernel
theorem dL_law_3487 : decode cL_law 3487 = .ok (.istore 7, 2) := by decide +kernel
theorem dL_law_3489 : decode cL_law 3489 = .ok (.aload_n 2, 1) := by decide +kernel
theorem dL_law_3490 : decode cL_law 3490 = .ok (.invokevirtual 166, 3) := by decide +kernel
theorem dL_law_3493 : decode cL_law 3493 = .ok (.iload 6, 2) := by decide +kernel
theorem dL_law_3495 : decode cL_law 3495 = .ok (.if_icmp .eq 5, 3) := by decide +kernel
theorem dL_law_3498 : decode cL_law 3498 = .ok (.iconst 0, 1) := by decide +kernel
theorem dL_law_3499 : decode cL_law 3499 = .ok (.ireturn, 1) := by decide +kernel
theorem dL_law_3500 : decode cL_law 3500 = .ok (.iload 6, 2) := by decide +kernel
theorem dL_law_3502 : decode cL_law 3502 = .ok (.ifCond .ne 15, 3) := by decide +kernel
theorem dL_law_3505 : decode cL_law 3505 = .ok (.aload_n 3, 1) := by decide +kernel
theorem dL_law_3506 : decode cL_law 3506 = .ok (.iconst 0, 1) := by decide +kernel
theorem dL_law_3507 : decode cL_law 3507 = .ok (.laload, 1) := by decide +kernel
theorem dL_law_3508 : decode cL_law 3508 = .ok (.iload 7, 2) := by decide +kernel
theorem dL_law_3510 : decode cL_law 3510 = .ok (.i2l, 1) := by decide +kernel
theorem dL_law_3511 : decode cL_law 3511 = .ok (.lcmp, 1) := by decide +kernel
theorem dL_law_3512 : decode cL_law 3512 = .ok (.ifCond .eq 5, 3) := by decide +kernel
theorem dL_law_3515 : decode cL_law 3515 = .ok (.iconst 0, 1) := by decide +kernel
theorem dL_law_3516 : decode cL_law 3516 = .ok (.ireturn, 1) := by decide +kernel
theorem dL_law_3517 : decode cL_law 3517 = .ok (.goto 3, 3) := by decide +kernel
theorem dL_law_3520 : decode cL_law 3520 = .ok (.iinc 5 5, 3) := by decide +kernel
theorem dL_law_3523 : decode cL_law 3523 = .ok (.goto (-3495), 3) := by decide +kernel
theorem dL_law_3526 : decode cL_law 3526 = .ok (.iconst 1, 1) := by decide +kernel
theorem dL_law_3527 : decode cL_law 3527 = .ok (.ireturn, 1) := by decide +kernel
