theorem dL_addKettle_0 : decode cL_addKettle 0 = .ok (.aload_n 2, 1) := by decide +kernel
theorem dL_addKettle_1 : decode cL_addKettle 1 = .ok (.iconst 0, 1) := by decide +kernel
theorem dL_addKettle_2 : decode cL_addKettle 2 = .ok (.aload_n 0, 1) := by decide +kernel
theorem dL_addKettle_3 : decode cL_addKettle 3 = .ok (.iload_n 1, 1) := by decide +kernel
theorem dL_addKettle_4 : decode cL_addKettle 4 = .ok (.invokevirtual 7, 3) := by decide +kernel
theorem dL_addKettle_7 : decode cL_addKettle 7 = .ok (.i2l, 1) := by decide +kernel
theorem dL_addKettle_8 : decode cL_addKettle 8 = .ok (.lastore, 1) := by decide +kernel
theorem dL_addKettle_9 : decode cL_addKettle 9 = .ok (.goto 9, 3) := by decide +kernel
theorem dL_addKettle_12 : decode cL_addKettle 12 = .ok (.astore_n 3, 1) := by decide +kernel
theorem dL_addKettle_13 : decode cL_addKettle 13 = .ok (.iconst 1, 1) := by decide +kernel
theorem dL_addKettle_14 : decode cL_addKettle 14 = .ok (.ireturn, 1) := by decide +kernel
theorem dL_addKettle_15 : decode cL_addKettle 15 = .ok (.astore_n 3, 1) := by decide +kernel
theorem dL_addKettle_16 : decode cL_addKettle 16 = .ok (.iconst 2, 1) := by decide +kernel
theorem dL_addKettle_17 : decode cL_addKettle 17 = .ok (.ireturn, 1) := by decide +kernel
theorem dL_addKettle_18 : decode cL_addKettle 18 = .ok (.iconst 0, 1) := by decide +kernel
theorem dL_addKettle_19 : decode cL_addKettle 19 = .ok (.ireturn, 1) := by decide +kernel
theorem dL_fill_0 : decode cL_fill 0 = .ok (.aload_n 3, 1) := by decide +kernel
theorem dL_fill_1 : decode cL_fill 1 = .ok (.iconst 0, 1) := by decide +kernel
theorem dL_fill_2 : decode cL_fill 2 = .ok (.aload_n 0, 1) := by decide +kernel
theorem dL_fill_3 : decode cL_fill 3 = .ok (.iload_n 1, 1) := by decide +kernel
theorem dL_fill_4 : decode cL_fill 4 = .ok (.iload_n 2, 1) := by decide +kernel
theorem dL_fill_5 : decode cL_fill 5 = .ok (.invokevirtual 17, 3) := by decide +kernel
theorem dL_fill_8 : decode cL_fill 8 = .ok (.f2d, 1) := by decide +kernel
theorem dL_fill_9 : decode cL_fill 9 = .ok (.dastore, 1) := by decide +kernel
theorem dL_fill_10 : decode cL_fill 10 = .ok (.goto 15, 3) := by decide +kernel
theorem dL_fill_13 : decode cL_fill 13 = .ok (.astore 4, 2) := by decide +kernel
theorem dL_fill_15 : decode cL_fill 15 = .ok (.iconst 1, 1) := by decide +kernel
theorem dL_fill_16 : decode cL_fill 16 = .ok (.ireturn, 1) := by decide +kernel
theorem dL_fill_17 : decode cL_fill 17 = .ok (.astore 4, 2) := by decide +kernel
theorem dL_fill_19 : decode cL_fill 19 = .ok (.iconst 2, 1) := by decide +kernel
theorem dL_fill_20 : decode cL_fill 20 = .ok (.ireturn, 1) := by decide +kernel
theorem dL_fill_21 : decode cL_fill 21 = .ok (.astore 4, 2) := by decide +kernel
theorem dL_fill_23 : decode cL_fill 23 = .ok (.iconst 3, 1) := by decide +kernel
theorem dL_fill_24 : decode cL_fill 24 = .ok (.ireturn, 1) := by decide +kernel
theorem dL_fill_25 : decode cL_fill 25 = .ok (.iconst 0, 1) := by decide +kernel
theorem dL_fill_26 : decode cL_fill 26 = .ok (.ireturn, 1) := by decide +kernel
theorem dL_setBurner_0 : decode cL_setBurner 0 = .ok (.aload_n 3, 1) := by decide +kernel
theorem dL_setBurner_1 : decode cL_setBurner 1 = .ok (.iconst 0, 1) := by decide +kernel
theorem dL_setBurner_2 : decode cL_setBurner 2 = .ok (.aload_n 0, 1) := by decide +kernel
theorem dL_setBurner_3 : decode cL_setBurner 3 = .ok (.iload_n 1, 1) := by decide +kernel
theorem dL_setBurner_4 : decode cL_setBurner 4 = .ok (.iload_n 2, 1) := by decide +kernel
theorem dL_setBurner_5 : decode cL_setBurner 5 = .ok (.invokevirtual 23, 3) := by decide +kernel
theorem dL_setBurner_8 : decode cL_setBurner 8 = .ok (.i2l, 1) := by decide +kernel
theorem dL_setBurner_9 : decode cL_setBurner 9 = .ok (.lastore, 1) := by decide +kernel
theorem dL_setBurner_10 : decode cL_setBurner 10 = .ok (.goto 11, 3) := by decide +kernel
theorem dL_setBurner_13 : decode cL_setBurner 13 = .ok (.astore 4, 2) := by decide +kernel
theorem dL_setBurner_15 : decode cL_setBurner 15 = .ok (.iconst 1, 1) := by decide +kernel
theorem dL_setBurner_16 : decode cL_setBurner 16 = .ok (.ireturn, 1) := by decide +kernel
theorem dL_setBurner_17 : decode cL_setBurner 17 = .ok (.astore 4, 2) := by decide +kernel
theorem dL_setBurner_19 : decode cL_setBurner 19 = .ok (.iconst 2, 1) := by decide +kernel
theorem dL_setBurner_20 : decode cL_setBurner 20 = .ok (.ireturn, 1) := by decide +kernel
theorem dL_setBurner_21 : decode cL_setBurner 21 = .ok (.iconst 0, 1) := by decide +kernel
theorem dL_setBurner_22 : decode cL_setBurner 22 = .ok (.ireturn, 1) := by decide +kernel
theorem dL_order_0 : decode cL_order 0 = .ok (.aload 5, 2) := by decide +kernel
theorem dL_order_2 : decode cL_order 2 = .ok (.iconst 0, 1) := by decide +kernel
theorem dL_order_3 : decode cL_order 3 = .ok (.aload_n 0, 1) := by decide +kernel
theorem dL_order_4 : decode cL_order 4 = .ok (.iload_n 1, 1) := by decide +kernel
theorem dL_order_5 : decode cL_order 5 = .ok (.iload_n 2, 1) := by decide +kernel
theorem dL_order_6 : decode cL_order 6 = .ok (.iload_n 3, 1) := by decide +kernel
theorem dL_order_7 : decode cL_order 7 = .ok (.iload 4, 2) := by decide +kernel
theorem dL_order_9 : decode cL_order 9 = .ok (.invokevirtual 27, 3) := by decide +kernel
theorem dL_order_12 : decode cL_order 12 = .ok (.i2l, 1) := by decide +kernel
theorem dL_order_13 : decode cL_order 13 = .ok (.lastore, 1) := by decide +kernel
theorem dL_order_14 : decode cL_order 14 = .ok (.goto 11, 3) := by decide +kernel
theorem dL_order_17 : decode cL_order 17 = .ok (.astore 6, 2) := by decide +kernel
theorem dL_order_19 : decode cL_order 19 = .ok (.iconst 1, 1) := by decide +kernel
theorem dL_order_20 : decode cL_order 20 = .ok (.ireturn, 1) := by decide +kernel
theorem dL_order_21 : decode cL_order 21 = .ok (.astore 6, 2) := by decide +kernel
theorem dL_order_23 : decode cL_order 23 = .ok (.iconst 2, 1) := by decide +kernel
theorem dL_order_24 : decode cL_order 24 = .ok (.ireturn, 1) := by decide +kernel
theorem dL_order_25 : decode cL_order 25 = .ok (.iconst 0, 1) := by decide +kernel
theorem dL_order_26 : decode cL_order 26 = .ok (.ireturn, 1) := by decide +kernel
theorem dL_cancel_0 : decode cL_cancel 0 = .ok (.aload_n 2, 1) := by decide +kernel
theorem dL_cancel_1 : decode cL_cancel 1 = .ok (.iconst 0, 1) := by decide +kernel
theorem dL_cancel_2 : decode cL_cancel 2 = .ok (.aload_n 0, 1) := by decide +kernel
theorem dL_cancel_3 : decode cL_cancel 3 = .ok (.iload_n 1, 1) := by decide +kernel
theorem dL_cancel_4 : decode cL_cancel 4 = .ok (.invokevirtual 31, 3) := by decide +kernel
theorem dL_cancel_7 : decode cL_cancel 7 = .ok (.i2l, 1) := by decide +kernel
theorem dL_cancel_8 : decode cL_cancel 8 = .ok (.lastore, 1) := by decide +kernel
theorem dL_cancel_9 : decode cL_cancel 9 = .ok (.goto 6, 3) := by decide +kernel
theorem dL_cancel_12 : decode cL_cancel 12 = .ok (.astore_n 3, 1) := by decide +kernel
theorem dL_cancel_13 : decode cL_cancel 13 = .ok (.iconst 1, 1) := by decide +kernel
theorem dL_cancel_14 : decode cL_cancel 14 = .ok (.ireturn, 1) := by decide +kernel
theorem dL_cancel_15 : decode cL_cancel 15 = .ok (.iconst 0, 1) := by decide +kernel
theorem dL_cancel_16 : decode cL_cancel 16 = .ok (.ireturn, 1) := by decide +kernel
theorem dL_serveNext_0 : decode cL_serveNext 0 = .ok (.aload_n 1, 1) := by decide +kernel
theorem dL_serveNext_1 : decode cL_serveNext 1 = .ok (.iconst 0, 1) := by decide +kernel
theorem dL_serveNext_2 : decode cL_serveNext 2 = .ok (.aload_n 0, 1) := by decide +kernel
theorem dL_serveNext_3 : decode cL_serveNext 3 = .ok (.invokevirtual 36, 3) := by decide +kernel
theorem dL_serveNext_6 : decode cL_serveNext 6 = .ok (.i2l, 1) := by decide +kernel
theorem dL_serveNext_7 : decode cL_serveNext 7 = .ok (.lastore, 1) := by decide +kernel
theorem dL_serveNext_8 : decode cL_serveNext 8 = .ok (.goto 6, 3) := by decide +kernel
theorem dL_serveNext_11 : decode cL_serveNext 11 = .ok (.astore_n 2, 1) := by decide +kernel
theorem dL_serveNext_12 : decode cL_serveNext 12 = .ok (.iconst 1, 1) := by decide +kernel
theorem dL_serveNext_13 : decode cL_serveNext 13 = .ok (.ireturn, 1) := by decide +kernel
theorem dL_serveNext_14 : decode cL_serveNext 14 = .ok (.iconst 0, 1) := by decide +kernel
theorem dL_serveNext_15 : decode cL_serveNext 15 = .ok (.ireturn, 1) := by decide +kernel
theorem dL_wash_0 : decode cL_wash 0 = .ok (.aload_n 2, 1) := by decide +kernel
theorem dL_wash_1 : decode cL_wash 1 = .ok (.iconst 0, 1) := by decide +kernel
theorem dL_wash_2 : decode cL_wash 2 = .ok (.aload_n 0, 1) := by decide +kernel
theorem dL_wash_3 : decode cL_wash 3 = .ok (.iload_n 1, 1) := by decide +kernel
theorem dL_wash_4 : decode cL_wash 4 = .ok (.invokevirtual 40, 3) := by decide +kernel
theorem dL_wash_7 : decode cL_wash 7 = .ok (.i2l, 1) := by decide +kernel
theorem dL_wash_8 : decode cL_wash 8 = .ok (.lastore, 1) := by decide +kernel
theorem dL_wash_9 : decode cL_wash 9 = .ok (.goto 9, 3) := by decide +kernel
theorem dL_wash_12 : decode cL_wash 12 = .ok (.astore_n 3, 1) := by decide +kernel
theorem dL_wash_13 : decode cL_wash 13 = .ok (.iconst 1, 1) := by decide +kernel
theorem dL_wash_14 : decode cL_wash 14 = .ok (.ireturn, 1) := by decide +kernel
theorem dL_wash_15 : decode cL_wash 15 = .ok (.astore_n 3, 1) := by decide +kernel
theorem dL_wash_16 : decode cL_wash 16 = .ok (.iconst 2, 1) := by decide +kernel
theorem dL_wash_17 : decode cL_wash 17 = .ok (.ireturn, 1) := by decide +kernel
theorem dL_wash_18 : decode cL_wash 18 = .ok (.iconst 0, 1) := by decide +kernel
theorem dL_wash_19 : decode cL_wash 19 = .ok (.ireturn, 1) := by decide +kernel
theorem dL_sellSteam_0 : decode cL_sellSteam 0 = .ok (.aload_n 2, 1) := by decide +kernel
theorem dL_sellSteam_1 : decode cL_sellSteam 1 = .ok (.iconst 0, 1) := by decide +kernel
theorem dL_sellSteam_2 : decode cL_sellSteam 2 = .ok (.aload_n 0, 1) := by decide +kernel
theorem dL_sellSteam_3 : decode cL_sellSteam 3 = .ok (.iload_n 1, 1) := by decide +kernel
theorem dL_sellSteam_4 : decode cL_sellSteam 4 = .ok (.invokevirtual 43, 3) := by decide +kernel
theorem dL_sellSteam_7 : decode cL_sellSteam 7 = .ok (.f2d, 1) := by decide +kernel
theorem dL_sellSteam_8 : decode cL_sellSteam 8 = .ok (.dastore, 1) := by decide +kernel
theorem dL_sellSteam_9 : decode cL_sellSteam 9 = .ok (.goto 9, 3) := by decide +kernel
theorem dL_sellSteam_12 : decode cL_sellSteam 12 = .ok (.astore_n 3, 1) := by decide +kernel
theorem dL_sellSteam_13 : decode cL_sellSteam 13 = .ok (.iconst 1, 1) := by decide +kernel
theorem dL_sellSteam_14 : decode cL_sellSteam 14 = .ok (.ireturn, 1) := by decide +kernel
theorem dL_sellSteam_15 : decode cL_sellSteam 15 = .ok (.astore_n 3, 1) := by decide +kernel
theorem dL_sellSteam_16 : decode cL_sellSteam 16 = .ok (.iconst 2, 1) := by decide +kernel
theorem dL_sellSteam_17 : decode cL_sellSteam 17 = .ok (.ireturn, 1) := by decide +kernel
theorem dL_sellSteam_18 : decode cL_sellSteam 18 = .ok (.iconst 0, 1) := by decide +kernel
theorem dL_sellSteam_19 : decode cL_sellSteam 19 = .ok (.ireturn, 1) := by decide +kernel
theorem dL_setCupPrice_0 : decode cL_setCupPrice 0 = .ok (.aload_n 2, 1) := by decide +kernel
theorem dL_setCupPrice_1 : decode cL_setCupPrice 1 = .ok (.iconst 0, 1) := by decide +kernel
theorem dL_setCupPrice_2 : decode cL_setCupPrice 2 = .ok (.aload_n 0, 1) := by decide +kernel
theorem dL_setCupPrice_3 : decode cL_setCupPrice 3 = .ok (.iload_n 1, 1) := by decide +kernel
theorem dL_setCupPrice_4 : decode cL_setCupPrice 4 = .ok (.invokevirtual 47, 3) := by decide +kernel
theorem dL_setCupPrice_7 : decode cL_setCupPrice 7 = .ok (.f2d, 1) := by decide +kernel
theorem dL_setCupPrice_8 : decode cL_setCupPrice 8 = .ok (.dastore, 1) := by decide +kernel
theorem dL_setCupPrice_9 : decode cL_setCupPrice 9 = .ok (.goto 6, 3) := by decide +kernel
theorem dL_setCupPrice_12 : decode cL_setCupPrice 12 = .ok (.astore_n 3, 1) := by decide +kernel
theorem dL_setCupPrice_13 : decode cL_setCupPrice 13 = .ok (.iconst 1, 1) := by decide +kernel
theorem dL_setCupPrice_14 : decode cL_setCupPrice 14 = .ok (.ireturn, 1) := by decide +kernel
theorem dL_setCupPrice_15 : decode cL_setCupPrice 15 = .ok (.iconst 0, 1) := by decide +kernel
theorem dL_setCupPrice_16 : decode cL_setCupPrice 16 = .ok (.ireturn, 1) := by decide +kernel
theorem dL_setSteamPrice_0 : decode cL_setSteamPrice 0 = .ok (.aload_n 2, 1) := by decide +kernel
theorem dL_setSteamPrice_1 : decode cL_setSteamPrice 1 = .ok (.iconst 0, 1) := by decide +kernel
theorem dL_setSteamPrice_2 : decode cL_setSteamPrice 2 = .ok (.aload_n 0, 1) := by decide +kernel
theorem dL_setSteamPrice_3 : decode cL_setSteamPrice 3 = .ok (.iload_n 1, 1) := by decide +kernel
theorem dL_setSteamPrice_4 : decode cL_setSteamPrice 4 = .ok (.invokevirtual 50, 3) := by decide +kernel
theorem dL_setSteamPrice_7 : decode cL_setSteamPrice 7 = .ok (.f2d, 1) := by decide +kernel
theorem dL_setSteamPrice_8 : decode cL_setSteamPrice 8 = .ok (.dastore, 1) := by decide +kernel
theorem dL_setSteamPrice_9 : decode cL_setSteamPrice 9 = .ok (.goto 6, 3) := by decide +kernel
theorem dL_setSteamPrice_12 : decode cL_setSteamPrice 12 = .ok (.astore_n 3, 1) := by decide +kernel
theorem dL_setSteamPrice_13 : decode cL_setSteamPrice 13 = .ok (.iconst 1, 1) := by decide +kernel
theorem dL_setSteamPrice_14 : decode cL_setSteamPrice 14 = .ok (.ireturn, 1) := by decide +kernel
theorem dL_setSteamPrice_15 : decode cL_setSteamPrice 15 = .ok (.iconst 0, 1) := by decide +kernel
theorem dL_setSteamPrice_16 : decode cL_setSteamPrice 16 = .ok (.ireturn, 1) := by decide +kernel
theorem dL_pass_0 : decode cL_pass 0 = .ok (.aload_n 2, 1) := by decide +kernel
theorem dL_pass_1 : decode cL_pass 1 = .ok (.iconst 0, 1) := by decide +kernel
theorem dL_pass_2 : decode cL_pass 2 = .ok (.aload_n 0, 1) := by decide +kernel
theorem dL_pass_3 : decode cL_pass 3 = .ok (.iload_n 1, 1) := by decide +kernel
theorem dL_pass_4 : decode cL_pass 4 = .ok (.invokevirtual 53, 3) := by decide +kernel
theorem dL_pass_7 : decode cL_pass 7 = .ok (.i2l, 1) := by decide +kernel
theorem dL_pass_8 : decode cL_pass 8 = .ok (.lastore, 1) := by decide +kernel
theorem dL_pass_9 : decode cL_pass 9 = .ok (.goto 6, 3) := by decide +kernel
theorem dL_pass_12 : decode cL_pass 12 = .ok (.astore_n 3, 1) := by decide +kernel
theorem dL_pass_13 : decode cL_pass 13 = .ok (.iconst 1, 1) := by decide +kernel
theorem dL_pass_14 : decode cL_pass 14 = .ok (.ireturn, 1) := by decide +kernel
theorem dL_pass_15 : decode cL_pass 15 = .ok (.iconst 0, 1) := by decide +kernel
theorem dL_pass_16 : decode cL_pass 16 = .ok (.ireturn, 1) := by decide +kernel
theorem dL_closeNight_0 : decode cL_closeNight 0 = .ok (.aload_n 1, 1) := by decide +kernel
theorem dL_closeNight_1 : decode cL_closeNight 1 = .ok (.iconst 0, 1) := by decide +kernel
theorem dL_closeNight_2 : decode cL_closeNight 2 = .ok (.aload_n 0, 1) := by decide +kernel
theorem dL_closeNight_3 : decode cL_closeNight 3 = .ok (.invokevirtual 56, 3) := by decide +kernel
theorem dL_closeNight_6 : decode cL_closeNight 6 = .ok (.f2d, 1) := by decide +kernel
theorem dL_closeNight_7 : decode cL_closeNight 7 = .ok (.dastore, 1) := by decide +kernel
theorem dL_closeNight_8 : decode cL_closeNight 8 = .ok (.goto 6, 3) := by decide +kernel
theorem dL_closeNight_11 : decode cL_closeNight 11 = .ok (.astore_n 2, 1) := by decide +kernel
theorem dL_closeNight_12 : decode cL_closeNight 12 = .ok (.iconst 1, 1) := by decide +kernel
theorem dL_closeNight_13 : decode cL_closeNight 13 = .ok (.ireturn, 1) := by decide +kernel
theorem dL_closeNight_14 : decode cL_closeNight 14 = .ok (.iconst 0, 1) := by decide +kernel
theorem dL_closeNight_15 : decode cL_closeNight 15 = .ok (.ireturn, 1) := by decide +kernel
theorem dL_capacity_0 : decode cL_capacity 0 = .ok (.aload_n 2, 1) := by decide +kernel
theorem dL_capacity_1 : decode cL_capacity 1 = .ok (.iconst 0, 1) := by decide +kernel
theorem dL_capacity_2 : decode cL_capacity 2 = .ok (.aload_n 0, 1) := by decide +kernel
theorem dL_capacity_3 : decode cL_capacity 3 = .ok (.iload_n 1, 1) := by decide +kernel
theorem dL_capacity_4 : decode cL_capacity 4 = .ok (.invokevirtual 60, 3) := by decide +kernel
theorem dL_capacity_7 : decode cL_capacity 7 = .ok (.f2d, 1) := by decide +kernel
theorem dL_capacity_8 : decode cL_capacity 8 = .ok (.dastore, 1) := by decide +kernel
theorem dL_capacity_9 : decode cL_capacity 9 = .ok (.goto 6, 3) := by decide +kernel
theorem dL_capacity_12 : decode cL_capacity 12 = .ok (.astore_n 3, 1) := by decide +kernel
theorem dL_capacity_13 : decode cL_capacity 13 = .ok (.iconst 1, 1) := by decide +kernel
theorem dL_capacity_14 : decode cL_capacity 14 = .ok (.ireturn, 1) := by decide +kernel
theorem dL_capacity_15 : decode cL_capacity 15 = .ok (.iconst 0, 1) := by decide +kernel
theorem dL_capacity_16 : decode cL_capacity 16 = .ok (.ireturn, 1) := by decide +kernel
theorem dL_volume_0 : decode cL_volume 0 = .ok (.aload_n 2, 1) := by decide +kernel
theorem dL_volume_1 : decode cL_volume 1 = .ok (.iconst 0, 1) := by decide +kernel
theorem dL_volume_2 : decode cL_volume 2 = .ok (.aload_n 0, 1) := by decide +kernel
theorem dL_volume_3 : decode cL_volume 3 = .ok (.iload_n 1, 1) := by decide +kernel
theorem dL_volume_4 : decode cL_volume 4 = .ok (.invokevirtual 63, 3) := by decide +kernel
theorem dL_volume_7 : decode cL_volume 7 = .ok (.f2d, 1) := by decide +kernel
theorem dL_volume_8 : decode cL_volume 8 = .ok (.dastore, 1) := by decide +kernel
theorem dL_volume_9 : decode cL_volume 9 = .ok (.goto 6, 3) := by decide +kernel
theorem dL_volume_12 : decode cL_volume 12 = .ok (.astore_n 3, 1) := by decide +kernel
theorem dL_volume_13 : decode cL_volume 13 = .ok (.iconst 1, 1) := by decide +kernel
theorem dL_volume_14 : decode cL_volume 14 = .ok (.ireturn, 1) := by decide +kernel
theorem dL_volume_15 : decode cL_volume 15 = .ok (.iconst 0, 1) := by decide +kernel
theorem dL_volume_16 : decode cL_volume 16 = .ok (.ireturn, 1) := by decide +kernel
theorem dL_temperature_0 : decode cL_temperature 0 = .ok (.aload_n 2, 1) := by decide +kernel
theorem dL_temperature_1 : decode cL_temperature 1 = .ok (.iconst 0, 1) := by decide +kernel
theorem dL_temperature_2 : decode cL_temperature 2 = .ok (.aload_n 0, 1) := by decide +kernel
theorem dL_temperature_3 : decode cL_temperature 3 = .ok (.iload_n 1, 1) := by decide +kernel
theorem dL_temperature_4 : decode cL_temperature 4 = .ok (.invokevirtual 66, 3) := by decide +kernel
theorem dL_temperature_7 : decode cL_temperature 7 = .ok (.f2d, 1) := by decide +kernel
theorem dL_temperature_8 : decode cL_temperature 8 = .ok (.dastore, 1) := by decide +kernel
theorem dL_temperature_9 : decode cL_temperature 9 = .ok (.goto 6, 3) := by decide +kernel
theorem dL_temperature_12 : decode cL_temperature 12 = .ok (.astore_n 3, 1) := by decide +kernel
theorem dL_temperature_13 : decode cL_temperature 13 = .ok (.iconst 1, 1) := by decide +kernel
theorem dL_temperature_14 : decode cL_temperature 14 = .ok (.ireturn, 1) := by decide +kernel
theorem dL_temperature_15 : decode cL_temperature 15 = .ok (.iconst 0, 1) := by decide +kernel
theorem dL_temperature_16 : decode cL_temperature 16 = .ok (.ireturn, 1) := by decide +kernel
theorem dL_temperatureBits_0 : decode cL_temperatureBits 0 = .ok (.aload_n 2, 1) := by decide +kernel
theorem dL_temperatureBits_1 : decode cL_temperatureBits 1 = .ok (.iconst 0, 1) := by decide +kernel
theorem dL_temperatureBits_2 : decode cL_temperatureBits 2 = .ok (.aload_n 0, 1) := by decide +kernel
theorem dL_temperatureBits_3 : decode cL_temperatureBits 3 = .ok (.iload_n 1, 1) := by decide +kernel
theorem dL_temperatureBits_4 : decode cL_temperatureBits 4 = .ok (.invokevirtual 69, 3) := by decide +kernel
theorem dL_temperatureBits_7 : decode cL_temperatureBits 7 = .ok (.i2l, 1) := by decide +kernel
theorem dL_temperatureBits_8 : decode cL_temperatureBits 8 = .ok (.lastore, 1) := by decide +kernel
theorem dL_temperatureBits_9 : decode cL_temperatureBits 9 = .ok (.goto 6, 3) := by decide +kernel
theorem dL_temperatureBits_12 : decode cL_temperatureBits 12 = .ok (.astore_n 3, 1) := by decide +kernel
theorem dL_temperatureBits_13 : decode cL_temperatureBits 13 = .ok (.iconst 1, 1) := by decide +kernel
theorem dL_temperatureBits_14 : decode cL_temperatureBits 14 = .ok (.ireturn, 1) := by decide +kernel
theorem dL_temperatureBits_15 : decode cL_temperatureBits 15 = .ok (.iconst 0, 1) := by decide +kernel
theorem dL_temperatureBits_16 : decode cL_temperatureBits 16 = .ok (.ireturn, 1) := by decide +kernel
theorem dL_burner_0 : decode cL_burner 0 = .ok (.aload_n 2, 1) := by decide +kernel
theorem dL_burner_1 : decode cL_burner 1 = .ok (.iconst 0, 1) := by decide +kernel
theorem dL_burner_2 : decode cL_burner 2 = .ok (.aload_n 0, 1) := by decide +kernel
theorem dL_burner_3 : decode cL_burner 3 = .ok (.iload_n 1, 1) := by decide +kernel
theorem dL_burner_4 : decode cL_burner 4 = .ok (.invokevirtual 72, 3) := by decide +kernel
theorem dL_burner_7 : decode cL_burner 7 = .ok (.i2l, 1) := by decide +kernel
theorem dL_burner_8 : decode cL_burner 8 = .ok (.lastore, 1) := by decide +kernel
theorem dL_burner_9 : decode cL_burner 9 = .ok (.goto 6, 3) := by decide +kernel
theorem dL_burner_12 : decode cL_burner 12 = .ok (.astore_n 3, 1) := by decide +kernel
theorem dL_burner_13 : decode cL_burner 13 = .ok (.iconst 1, 1) := by decide +kernel
theorem dL_burner_14 : decode cL_burner 14 = .ok (.ireturn, 1) := by decide +kernel
theorem dL_burner_15 : decode cL_burner 15 = .ok (.iconst 0, 1) := by decide +kernel
theorem dL_burner_16 : decode cL_burner 16 = .ok (.ireturn, 1) := by decide +kernel
theorem dL_isBoiling_0 : decode cL_isBoiling 0 = .ok (.aload_n 2, 1) := by decide +kernel
theorem dL_isBoiling_1 : decode cL_isBoiling 1 = .ok (.iconst 0, 1) := by decide +kernel
theorem dL_isBoiling_2 : decode cL_isBoiling 2 = .ok (.aload_n 0, 1) := by decide +kernel
theorem dL_isBoiling_3 : decode cL_isBoiling 3 = .ok (.iload_n 1, 1) := by decide +kernel
theorem dL_isBoiling_4 : decode cL_isBoiling 4 = .ok (.invokevirtual 75, 3) := by decide +kernel
theorem dL_isBoiling_7 : decode cL_isBoiling 7 = .ok (.ifCond .eq 7, 3) := by decide +kernel
theorem dL_isBoiling_10 : decode cL_isBoiling 10 = .ok (.lconst 1, 1) := by decide +kernel
theorem dL_isBoiling_11 : decode cL_isBoiling 11 = .ok (.goto 4, 3) := by decide +kernel
theorem dL_isBoiling_14 : decode cL_isBoiling 14 = .ok (.lconst 0, 1) := by decide +kernel
theorem dL_isBoiling_15 : decode cL_isBoiling 15 = .ok (.lastore, 1) := by decide +kernel
theorem dL_isBoiling_16 : decode cL_isBoiling 16 = .ok (.goto 6, 3) := by decide +kernel
theorem dL_isBoiling_19 : decode cL_isBoiling 19 = .ok (.astore_n 3, 1) := by decide +kernel
theorem dL_isBoiling_20 : decode cL_isBoiling 20 = .ok (.iconst 1, 1) := by decide +kernel
theorem dL_isBoiling_21 : decode cL_isBoiling 21 = .ok (.ireturn, 1) := by decide +kernel
theorem dL_isBoiling_22 : decode cL_isBoiling 22 = .ok (.iconst 0, 1) := by decide +kernel
theorem dL_isBoiling_23 : decode cL_isBoiling 23 = .ok (.ireturn, 1) := by decide +kernel
theorem dL_minutesUntilBoiling_0 : decode cL_minutesUntilBoiling 0 = .ok (.aload_n 2, 1) := by decide +kernel
theorem dL_minutesUntilBoiling_1 : decode cL_minutesUntilBoiling 1 = .ok (.iconst 0, 1) := by decide +kernel
theorem dL_minutesUntilBoiling_2 : decode cL_minutesUntilBoiling 2 = .ok (.aload_n 0, 1) := by decide +kernel
theorem dL_minutesUntilBoiling_3 : decode cL_minutesUntilBoiling 3 = .ok (.iload_n 1, 1) := by decide +kernel
theorem dL_minutesUntilBoiling_4 : decode cL_minutesUntilBoiling 4 = .ok (.invokevirtual 79, 3) := by decide +kernel
theorem dL_minutesUntilBoiling_7 : decode cL_minutesUntilBoiling 7 = .ok (.i2l, 1) := by decide +kernel
theorem dL_minutesUntilBoiling_8 : decode cL_minutesUntilBoiling 8 = .ok (.lastore, 1) := by decide +kernel
theorem dL_minutesUntilBoiling_9 : decode cL_minutesUntilBoiling 9 = .ok (.goto 9, 3) := by decide +kernel
theorem dL_minutesUntilBoiling_12 : decode cL_minutesUntilBoiling 12 = .ok (.astore_n 3, 1) := by decide +kernel
theorem dL_minutesUntilBoiling_13 : decode cL_minutesUntilBoiling 13 = .ok (.iconst 1, 1) := by decide +kernel
theorem dL_minutesUntilBoiling_14 : decode cL_minutesUntilBoiling 14 = .ok (.ireturn, 1) := by decide +kernel
theorem dL_minutesUntilBoiling_15 : decode cL_minutesUntilBoiling 15 = .ok (.astore_n 3, 1) := by decide +kernel
theorem dL_minutesUntilBoiling_16 : decode cL_minutesUntilBoiling 16 = .ok (.iconst 2, 1) := by decide +kernel
theorem dL_minutesUntilBoiling_17 : decode cL_minutesUntilBoiling 17 = .ok (.ireturn, 1) := by decide +kernel
theorem dL_minutesUntilBoiling_18 : decode cL_minutesUntilBoiling 18 = .ok (.iconst 0, 1) := by decide +kernel
theorem dL_minutesUntilBoiling_19 : decode cL_minutesUntilBoiling 19 = .ok (.ireturn, 1) := by decide +kernel
theorem dL_minutesUntilBoilingByMinutes_0 : decode cL_minutesUntilBoilingByMinutes 0 = .ok (.aload_n 2, 1) := by decide +kernel
theorem dL_minutesUntilBoilingByMinutes_1 : decode cL_minutesUntilBoilingByMinutes 1 = .ok (.iconst 0, 1) := by decide +kernel
theorem dL_minutesUntilBoilingByMinutes_2 : decode cL_minutesUntilBoilingByMinutes 2 = .ok (.aload_n 0, 1) := by decide +kernel
theorem dL_minutesUntilBoilingByMinutes_3 : decode cL_minutesUntilBoilingByMinutes 3 = .ok (.iload_n 1, 1) := by decide +kernel
theorem dL_minutesUntilBoilingByMinutes_4 : decode cL_minutesUntilBoilingByMinutes 4 = .ok (.invokevirtual 82, 3) := by decide +kernel
theorem dL_minutesUntilBoilingByMinutes_7 : decode cL_minutesUntilBoilingByMinutes 7 = .ok (.i2l, 1) := by decide +kernel
theorem dL_minutesUntilBoilingByMinutes_8 : decode cL_minutesUntilBoilingByMinutes 8 = .ok (.lastore, 1) := by decide +kernel
theorem dL_minutesUntilBoilingByMinutes_9 : decode cL_minutesUntilBoilingByMinutes 9 = .ok (.goto 9, 3) := by decide +kernel
theorem dL_minutesUntilBoilingByMinutes_12 : decode cL_minutesUntilBoilingByMinutes 12 = .ok (.astore_n 3, 1) := by decide +kernel
theorem dL_minutesUntilBoilingByMinutes_13 : decode cL_minutesUntilBoilingByMinutes 13 = .ok (.iconst 1, 1) := by decide +kernel
theorem dL_minutesUntilBoilingByMinutes_14 : decode cL_minutesUntilBoilingByMinutes 14 = .ok (.ireturn, 1) := by decide +kernel
theorem dL_minutesUntilBoilingByMinutes_15 : decode cL_minutesUntilBoilingByMinutes 15 = .ok (.astore_n 3, 1) := by decide +kernel
theorem dL_minutesUntilBoilingByMinutes_16 : decode cL_minutesUntilBoilingByMinutes 16 = .ok (.iconst 2, 1) := by decide +kernel
theorem dL_minutesUntilBoilingByMinutes_17 : decode cL_minutesUntilBoilingByMinutes 17 = .ok (.ireturn, 1) := by decide +kernel
theorem dL_minutesUntilBoilingByMinutes_18 : decode cL_minutesUntilBoilingByMinutes 18 = .ok (.iconst 0, 1) := by decide +kernel
theorem dL_minutesUntilBoilingByMinutes_19 : decode cL_minutesUntilBoilingByMinutes 19 = .ok (.ireturn, 1) := by decide +kernel
theorem dL_kettleByTemperature_0 : decode cL_kettleByTemperature 0 = .ok (.aload_n 2, 1) := by decide +kernel
theorem dL_kettleByTemperature_1 : decode cL_kettleByTemperature 1 = .ok (.iconst 0, 1) := by decide +kernel
theorem dL_kettleByTemperature_2 : decode cL_kettleByTemperature 2 = .ok (.aload_n 0, 1) := by decide +kernel
theorem dL_kettleByTemperature_3 : decode cL_kettleByTemperature 3 = .ok (.iload_n 1, 1) := by decide +kernel
theorem dL_kettleByTemperature_4 : decode cL_kettleByTemperature 4 = .ok (.invokevirtual 85, 3) := by decide +kernel
theorem dL_kettleByTemperature_7 : decode cL_kettleByTemperature 7 = .ok (.i2l, 1) := by decide +kernel
theorem dL_kettleByTemperature_8 : decode cL_kettleByTemperature 8 = .ok (.lastore, 1) := by decide +kernel
theorem dL_kettleByTemperature_9 : decode cL_kettleByTemperature 9 = .ok (.goto 6, 3) := by decide +kernel
theorem dL_kettleByTemperature_12 : decode cL_kettleByTemperature 12 = .ok (.astore_n 3, 1) := by decide +kernel
theorem dL_kettleByTemperature_13 : decode cL_kettleByTemperature 13 = .ok (.iconst 1, 1) := by decide +kernel
theorem dL_kettleByTemperature_14 : decode cL_kettleByTemperature 14 = .ok (.ireturn, 1) := by decide +kernel
theorem dL_kettleByTemperature_15 : decode cL_kettleByTemperature 15 = .ok (.iconst 0, 1) := by decide +kernel
theorem dL_kettleByTemperature_16 : decode cL_kettleByTemperature 16 = .ok (.ireturn, 1) := by decide +kernel
theorem dL_orderAt_0 : decode cL_orderAt 0 = .ok (.aload_n 2, 1) := by decide +kernel
theorem dL_orderAt_1 : decode cL_orderAt 1 = .ok (.iconst 0, 1) := by decide +kernel
theorem dL_orderAt_2 : decode cL_orderAt 2 = .ok (.aload_n 0, 1) := by decide +kernel
theorem dL_orderAt_3 : decode cL_orderAt 3 = .ok (.iload_n 1, 1) := by decide +kernel
theorem dL_orderAt_4 : decode cL_orderAt 4 = .ok (.invokevirtual 88, 3) := by decide +kernel
theorem dL_orderAt_7 : decode cL_orderAt 7 = .ok (.i2l, 1) := by decide +kernel
theorem dL_orderAt_8 : decode cL_orderAt 8 = .ok (.lastore, 1) := by decide +kernel
theorem dL_orderAt_9 : decode cL_orderAt 9 = .ok (.goto 6, 3) := by decide +kernel
theorem dL_orderAt_12 : decode cL_orderAt 12 = .ok (.astore_n 3, 1) := by decide +kernel
theorem dL_orderAt_13 : decode cL_orderAt 13 = .ok (.iconst 1, 1) := by decide +kernel
theorem dL_orderAt_14 : decode cL_orderAt 14 = .ok (.ireturn, 1) := by decide +kernel
theorem dL_orderAt_15 : decode cL_orderAt 15 = .ok (.iconst 0, 1) := by decide +kernel
theorem dL_orderAt_16 : decode cL_orderAt 16 = .ok (.ireturn, 1) := by decide +kernel
theorem dL_positionOf_0 : decode cL_positionOf 0 = .ok (.aload_n 2, 1) := by decide +kernel
theorem dL_positionOf_1 : decode cL_positionOf 1 = .ok (.iconst 0, 1) := by decide +kernel
theorem dL_positionOf_2 : decode cL_positionOf 2 = .ok (.aload_n 0, 1) := by decide +kernel
theorem dL_positionOf_3 : decode cL_positionOf 3 = .ok (.iload_n 1, 1) := by decide +kernel
theorem dL_positionOf_4 : decode cL_positionOf 4 = .ok (.invokevirtual 91, 3) := by decide +kernel
theorem dL_positionOf_7 : decode cL_positionOf 7 = .ok (.i2l, 1) := by decide +kernel
theorem dL_positionOf_8 : decode cL_positionOf 8 = .ok (.lastore, 1) := by decide +kernel
theorem dL_positionOf_9 : decode cL_positionOf 9 = .ok (.goto 6, 3) := by decide +kernel
theorem dL_positionOf_12 : decode cL_positionOf 12 = .ok (.astore_n 3, 1) := by decide +kernel
theorem dL_positionOf_13 : decode cL_positionOf 13 = .ok (.iconst 1, 1) := by decide +kernel
theorem dL_positionOf_14 : decode cL_positionOf 14 = .ok (.ireturn, 1) := by decide +kernel
theorem dL_positionOf_15 : decode cL_positionOf 15 = .ok (.iconst 0, 1) := by decide +kernel
theorem dL_positionOf_16 : decode cL_positionOf 16 = .ok (.ireturn, 1) := by decide +kernel
theorem dL_cupsOf_0 : decode cL_cupsOf 0 = .ok (.aload_n 2, 1) := by decide +kernel
theorem dL_cupsOf_1 : decode cL_cupsOf 1 = .ok (.iconst 0, 1) := by decide +kernel
theorem dL_cupsOf_2 : decode cL_cupsOf 2 = .ok (.aload_n 0, 1) := by decide +kernel
theorem dL_cupsOf_3 : decode cL_cupsOf 3 = .ok (.iload_n 1, 1) := by decide +kernel
theorem dL_cupsOf_4 : decode cL_cupsOf 4 = .ok (.invokevirtual 94, 3) := by decide +kernel
theorem dL_cupsOf_7 : decode cL_cupsOf 7 = .ok (.i2l, 1) := by decide +kernel
theorem dL_cupsOf_8 : decode cL_cupsOf 8 = .ok (.lastore, 1) := by decide +kernel
theorem dL_cupsOf_9 : decode cL_cupsOf 9 = .ok (.goto 6, 3) := by decide +kernel
theorem dL_cupsOf_12 : decode cL_cupsOf 12 = .ok (.astore_n 3, 1) := by decide +kernel
theorem dL_cupsOf_13 : decode cL_cupsOf 13 = .ok (.iconst 1, 1) := by decide +kernel
theorem dL_cupsOf_14 : decode cL_cupsOf 14 = .ok (.ireturn, 1) := by decide +kernel
theorem dL_cupsOf_15 : decode cL_cupsOf 15 = .ok (.iconst 0, 1) := by decide +kernel
theorem dL_cupsOf_16 : decode cL_cupsOf 16 = .ok (.ireturn, 1) := by decide +kernel
theorem dL_priceOf_0 : decode cL_priceOf 0 = .ok (.aload_n 2, 1) := by decide +kernel
theorem dL_priceOf_1 : decode cL_priceOf 1 = .ok (.iconst 0, 1) := by decide +kernel
theorem dL_priceOf_2 : decode cL_priceOf 2 = .ok (.aload_n 0, 1) := by decide +kernel
theorem dL_priceOf_3 : decode cL_priceOf 3 = .ok (.iload_n 1, 1) := by decide +kernel
theorem dL_priceOf_4 : decode cL_priceOf 4 = .ok (.invokevirtual 97, 3) := by decide +kernel
theorem dL_priceOf_7 : decode cL_priceOf 7 = .ok (.f2d, 1) := by decide +kernel
theorem dL_priceOf_8 : decode cL_priceOf 8 = .ok (.dastore, 1) := by decide +kernel
theorem dL_priceOf_9 : decode cL_priceOf 9 = .ok (.goto 6, 3) := by decide +kernel
theorem dL_priceOf_12 : decode cL_priceOf 12 = .ok (.astore_n 3, 1) := by decide +kernel
theorem dL_priceOf_13 : decode cL_priceOf 13 = .ok (.iconst 1, 1) := by decide +kernel
theorem dL_priceOf_14 : decode cL_priceOf 14 = .ok (.ireturn, 1) := by decide +kernel
theorem dL_priceOf_15 : decode cL_priceOf 15 = .ok (.iconst 0, 1) := by decide +kernel
theorem dL_priceOf_16 : decode cL_priceOf 16 = .ok (.ireturn, 1) := by decide +kernel
theorem dL_kettleFor_0 : decode cL_kettleFor 0 = .ok (.aload_n 2, 1) := by decide +kernel
theorem dL_kettleFor_1 : decode cL_kettleFor 1 = .ok (.iconst 0, 1) := by decide +kernel
theorem dL_kettleFor_2 : decode cL_kettleFor 2 = .ok (.aload_n 0, 1) := by decide +kernel
theorem dL_kettleFor_3 : decode cL_kettleFor 3 = .ok (.iload_n 1, 1) := by decide +kernel
theorem dL_kettleFor_4 : decode cL_kettleFor 4 = .ok (.invokevirtual 100, 3) := by decide +kernel
theorem dL_kettleFor_7 : decode cL_kettleFor 7 = .ok (.i2l, 1) := by decide +kernel
theorem dL_kettleFor_8 : decode cL_kettleFor 8 = .ok (.lastore, 1) := by decide +kernel
theorem dL_kettleFor_9 : decode cL_kettleFor 9 = .ok (.goto 6, 3) := by decide +kernel
theorem dL_kettleFor_12 : decode cL_kettleFor 12 = .ok (.astore_n 3, 1) := by decide +kernel
theorem dL_kettleFor_13 : decode cL_kettleFor 13 = .ok (.iconst 1, 1) := by decide +kernel
theorem dL_kettleFor_14 : decode cL_kettleFor 14 = .ok (.ireturn, 1) := by decide +kernel
theorem dL_kettleFor_15 : decode cL_kettleFor 15 = .ok (.iconst 0, 1) := by decide +kernel
theorem dL_kettleFor_16 : decode cL_kettleFor 16 = .ok (.ireturn, 1) := by decide +kernel
theorem dL_minutesUntilSuitable_0 : decode cL_minutesUntilSuitable 0 = .ok (.aload_n 2, 1) := by decide +kernel
theorem dL_minutesUntilSuitable_1 : decode cL_minutesUntilSuitable 1 = .ok (.iconst 0, 1) := by decide +kernel
theorem dL_minutesUntilSuitable_2 : decode cL_minutesUntilSuitable 2 = .ok (.aload_n 0, 1) := by decide +kernel
theorem dL_minutesUntilSuitable_3 : decode cL_minutesUntilSuitable 3 = .ok (.iload_n 1, 1) := by decide +kernel
theorem dL_minutesUntilSuitable_4 : decode cL_minutesUntilSuitable 4 = .ok (.invokevirtual 103, 3) := by decide +kernel
theorem dL_minutesUntilSuitable_7 : decode cL_minutesUntilSuitable 7 = .ok (.i2l, 1) := by decide +kernel
theorem dL_minutesUntilSuitable_8 : decode cL_minutesUntilSuitable 8 = .ok (.lastore, 1) := by decide +kernel
theorem dL_minutesUntilSuitable_9 : decode cL_minutesUntilSuitable 9 = .ok (.goto 6, 3) := by decide +kernel
theorem dL_minutesUntilSuitable_12 : decode cL_minutesUntilSuitable 12 = .ok (.astore_n 3, 1) := by decide +kernel
theorem dL_minutesUntilSuitable_13 : decode cL_minutesUntilSuitable 13 = .ok (.iconst 1, 1) := by decide +kernel
theorem dL_minutesUntilSuitable_14 : decode cL_minutesUntilSuitable 14 = .ok (.ireturn, 1) := by decide +kernel
theorem dL_minutesUntilSuitable_15 : decode cL_minutesUntilSuitable 15 = .ok (.iconst 0, 1) := by decide +kernel
theorem dL_minutesUntilSuitable_16 : decode cL_minutesUntilSuitable 16 = .ok (.ireturn, 1) := by decide +kernel
theorem dL_nightIncome_0 : decode cL_nightIncome 0 = .ok (.aload_n 2, 1) := by decide +kernel
theorem dL_nightIncome_1 : decode cL_nightIncome 1 = .ok (.iconst 0, 1) := by decide +kernel
theorem dL_nightIncome_2 : decode cL_nightIncome 2 = .ok (.aload_n 0, 1) := by decide +kernel
theorem dL_nightIncome_3 : decode cL_nightIncome 3 = .ok (.iload_n 1, 1) := by decide +kernel
theorem dL_nightIncome_4 : decode cL_nightIncome 4 = .ok (.invokevirtual 106, 3) := by decide +kernel
theorem dL_nightIncome_7 : decode cL_nightIncome 7 = .ok (.f2d, 1) := by decide +kernel
theorem dL_nightIncome_8 : decode cL_nightIncome 8 = .ok (.dastore, 1) := by decide +kernel
theorem dL_nightIncome_9 : decode cL_nightIncome 9 = .ok (.goto 6, 3) := by decide +kernel
theorem dL_nightIncome_12 : decode cL_nightIncome 12 = .ok (.astore_n 3, 1) := by decide +kernel
theorem dL_nightIncome_13 : decode cL_nightIncome 13 = .ok (.iconst 1, 1) := by decide +kernel
theorem dL_nightIncome_14 : decode cL_nightIncome 14 = .ok (.ireturn, 1) := by decide +kernel
theorem dL_nightIncome_15 : decode cL_nightIncome 15 = .ok (.iconst 0, 1) := by decide +kernel
theorem dL_nightIncome_16 : decode cL_nightIncome 16 = .ok (.ireturn, 1) := by decide +kernel
theorem dL_nightByIncome_0 : decode cL_nightByIncome 0 = .ok (.aload_n 2, 1) := by decide +kernel
theorem dL_nightByIncome_1 : decode cL_nightByIncome 1 = .ok (.iconst 0, 1) := by decide +kernel
theorem dL_nightByIncome_2 : decode cL_nightByIncome 2 = .ok (.aload_n 0, 1) := by decide +kernel
theorem dL_nightByIncome_3 : decode cL_nightByIncome 3 = .ok (.iload_n 1, 1) := by decide +kernel
theorem dL_nightByIncome_4 : decode cL_nightByIncome 4 = .ok (.invokevirtual 109, 3) := by decide +kernel
theorem dL_nightByIncome_7 : decode cL_nightByIncome 7 = .ok (.i2l, 1) := by decide +kernel
theorem dL_nightByIncome_8 : decode cL_nightByIncome 8 = .ok (.lastore, 1) := by decide +kernel
theorem dL_nightByIncome_9 : decode cL_nightByIncome 9 = .ok (.goto 6, 3) := by decide +kernel
theorem dL_nightByIncome_12 : decode cL_nightByIncome 12 = .ok (.astore_n 3, 1) := by decide +kernel
theorem dL_nightByIncome_13 : decode cL_nightByIncome 13 = .ok (.iconst 1, 1) := by decide +kernel
theorem dL_nightByIncome_14 : decode cL_nightByIncome 14 = .ok (.ireturn, 1) := by decide +kernel
theorem dL_nightByIncome_15 : decode cL_nightByIncome 15 = .ok (.iconst 0, 1) := by decide +kernel
theorem dL_nightByIncome_16 : decode cL_nightByIncome 16 = .ok (.ireturn, 1) := by decide +kernel
theorem dL_greatestIncome_0 : decode cL_greatestIncome 0 = .ok (.aload_n 2, 1) := by decide +kernel
theorem dL_greatestIncome_1 : decode cL_greatestIncome 1 = .ok (.iconst 0, 1) := by decide +kernel
theorem dL_greatestIncome_2 : decode cL_greatestIncome 2 = .ok (.aload_n 0, 1) := by decide +kernel
theorem dL_greatestIncome_3 : decode cL_greatestIncome 3 = .ok (.iload_n 1, 1) := by decide +kernel
theorem dL_greatestIncome_4 : decode cL_greatestIncome 4 = .ok (.invokevirtual 112, 3) := by decide +kernel
theorem dL_greatestIncome_7 : decode cL_greatestIncome 7 = .ok (.f2d, 1) := by decide +kernel
theorem dL_greatestIncome_8 : decode cL_greatestIncome 8 = .ok (.dastore, 1) := by decide +kernel
theorem dL_greatestIncome_9 : decode cL_greatestIncome 9 = .ok (.goto 9, 3) := by decide +kernel
theorem dL_greatestIncome_12 : decode cL_greatestIncome 12 = .ok (.astore_n 3, 1) := by decide +kernel
theorem dL_greatestIncome_13 : decode cL_greatestIncome 13 = .ok (.iconst 1, 1) := by decide +kernel
theorem dL_greatestIncome_14 : decode cL_greatestIncome 14 = .ok (.ireturn, 1) := by decide +kernel
theorem dL_greatestIncome_15 : decode cL_greatestIncome 15 = .ok (.astore_n 3, 1) := by decide +kernel
theorem dL_greatestIncome_16 : decode cL_greatestIncome 16 = .ok (.iconst 2, 1) := by decide +kernel
theorem dL_greatestIncome_17 : decode cL_greatestIncome 17 = .ok (.ireturn, 1) := by decide +kernel
theorem dL_greatestIncome_18 : decode cL_greatestIncome 18 = .ok (.iconst 0, 1) := by decide +kernel
theorem dL_greatestIncome_19 : decode cL_greatestIncome 19 = .ok (.ireturn, 1) := by decide +kernel
theorem dL_greatestIncomeBySums_0 : decode cL_greatestIncomeBySums 0 = .ok (.aload_n 2, 1) := by decide +kernel
theorem dL_greatestIncomeBySums_1 : decode cL_greatestIncomeBySums 1 = .ok (.iconst 0, 1) := by decide +kernel
theorem dL_greatestIncomeBySums_2 : decode cL_greatestIncomeBySums 2 = .ok (.aload_n 0, 1) := by decide +kernel
theorem dL_greatestIncomeBySums_3 : decode cL_greatestIncomeBySums 3 = .ok (.iload_n 1, 1) := by decide +kernel
theorem dL_greatestIncomeBySums_4 : decode cL_greatestIncomeBySums 4 = .ok (.invokevirtual 115, 3) := by decide +kernel
theorem dL_greatestIncomeBySums_7 : decode cL_greatestIncomeBySums 7 = .ok (.f2d, 1) := by decide +kernel
theorem dL_greatestIncomeBySums_8 : decode cL_greatestIncomeBySums 8 = .ok (.dastore, 1) := by decide +kernel
theorem dL_greatestIncomeBySums_9 : decode cL_greatestIncomeBySums 9 = .ok (.goto 9, 3) := by decide +kernel
theorem dL_greatestIncomeBySums_12 : decode cL_greatestIncomeBySums 12 = .ok (.astore_n 3, 1) := by decide +kernel
theorem dL_greatestIncomeBySums_13 : decode cL_greatestIncomeBySums 13 = .ok (.iconst 1, 1) := by decide +kernel
theorem dL_greatestIncomeBySums_14 : decode cL_greatestIncomeBySums 14 = .ok (.ireturn, 1) := by decide +kernel
theorem dL_greatestIncomeBySums_15 : decode cL_greatestIncomeBySums 15 = .ok (.astore_n 3, 1) := by decide +kernel
theorem dL_greatestIncomeBySums_16 : decode cL_greatestIncomeBySums 16 = .ok (.iconst 2, 1) := by decide +kernel
theorem dL_greatestIncomeBySums_17 : decode cL_greatestIncomeBySums 17 = .ok (.ireturn, 1) := by decide +kernel
theorem dL_greatestIncomeBySums_18 : decode cL_greatestIncomeBySums 18 = .ok (.iconst 0, 1) := by decide +kernel
theorem dL_greatestIncomeBySums_19 : decode cL_greatestIncomeBySums 19 = .ok (.ireturn, 1) := by decide +kernel
theorem dL_meanTemperature_0 : decode cL_meanTemperature 0 = .ok (.aload_n 1, 1) := by decide +kernel
theorem dL_meanTemperature_1 : decode cL_meanTemperature 1 = .ok (.iconst 0, 1) := by decide +kernel
theorem dL_meanTemperature_2 : decode cL_meanTemperature 2 = .ok (.aload_n 0, 1) := by decide +kernel
theorem dL_meanTemperature_3 : decode cL_meanTemperature 3 = .ok (.invokevirtual 118, 3) := by decide +kernel
theorem dL_meanTemperature_6 : decode cL_meanTemperature 6 = .ok (.dastore, 1) := by decide +kernel
theorem dL_meanTemperature_7 : decode cL_meanTemperature 7 = .ok (.goto 6, 3) := by decide +kernel
theorem dL_meanTemperature_10 : decode cL_meanTemperature 10 = .ok (.astore_n 2, 1) := by decide +kernel
theorem dL_meanTemperature_11 : decode cL_meanTemperature 11 = .ok (.iconst 1, 1) := by decide +kernel
theorem dL_meanTemperature_12 : decode cL_meanTemperature 12 = .ok (.ireturn, 1) := by decide +kernel
theorem dL_meanTemperature_13 : decode cL_meanTemperature 13 = .ok (.iconst 0, 1) := by decide +kernel
theorem dL_meanTemperature_14 : decode cL_meanTemperature 14 = .ok (.ireturn, 1) := by decide +kernel
theorem dL_lostShare_0 : decode cL_lostShare 0 = .ok (.aload_n 1, 1) := by decide +kernel
theorem dL_lostShare_1 : decode cL_lostShare 1 = .ok (.iconst 0, 1) := by decide +kernel
theorem dL_lostShare_2 : decode cL_lostShare 2 = .ok (.aload_n 0, 1) := by decide +kernel
theorem dL_lostShare_3 : decode cL_lostShare 3 = .ok (.invokevirtual 124, 3) := by decide +kernel
theorem dL_lostShare_6 : decode cL_lostShare 6 = .ok (.f2d, 1) := by decide +kernel
theorem dL_lostShare_7 : decode cL_lostShare 7 = .ok (.dastore, 1) := by decide +kernel
theorem dL_lostShare_8 : decode cL_lostShare 8 = .ok (.goto 6, 3) := by decide +kernel
theorem dL_lostShare_11 : decode cL_lostShare 11 = .ok (.astore_n 2, 1) := by decide +kernel
theorem dL_lostShare_12 : decode cL_lostShare 12 = .ok (.iconst 1, 1) := by decide +kernel
theorem dL_lostShare_13 : decode cL_lostShare 13 = .ok (.ireturn, 1) := by decide +kernel
theorem dL_lostShare_14 : decode cL_lostShare 14 = .ok (.iconst 0, 1) := by decide +kernel
theorem dL_lostShare_15 : decode cL_lostShare 15 = .ok (.ireturn, 1) := by decide +kernel
theorem dL_formatKettle_0 : decode cL_formatKettle 0 = .ok (.aload_n 2, 1) := by decide +kernel
theorem dL_formatKettle_1 : decode cL_formatKettle 1 = .ok (.iconst 0, 1) := by decide +kernel
theorem dL_formatKettle_2 : decode cL_formatKettle 2 = .ok (.aload_n 0, 1) := by decide +kernel
theorem dL_formatKettle_3 : decode cL_formatKettle 3 = .ok (.iload_n 1, 1) := by decide +kernel
theorem dL_formatKettle_4 : decode cL_formatKettle 4 = .ok (.invokevirtual 127, 3) := by decide +kernel
theorem dL_formatKettle_7 : decode cL_formatKettle 7 = .ok (.i2l, 1) := by decide +kernel
theorem dL_formatKettle_8 : decode cL_formatKettle 8 = .ok (.lastore, 1) := by decide +kernel
theorem dL_formatKettle_9 : decode cL_formatKettle 9 = .ok (.goto 6, 3) := by decide +kernel
theorem dL_formatKettle_12 : decode cL_formatKettle 12 = .ok (.astore_n 3, 1) := by decide +kernel
theorem dL_formatKettle_13 : decode cL_formatKettle 13 = .ok (.iconst 1, 1) := by decide +kernel
theorem dL_formatKettle_14 : decode cL_formatKettle 14 = .ok (.ireturn, 1) := by decide +kernel
theorem dL_formatKettle_15 : decode cL_formatKettle 15 = .ok (.iconst 0, 1) := by decide +kernel
theorem dL_formatKettle_16 : decode cL_formatKettle 16 = .ok (.ireturn, 1) := by decide +kernel
theorem dL_formatOrder_0 : decode cL_formatOrder 0 = .ok (.aload_n 2, 1) := by decide +kernel
theorem dL_formatOrder_1 : decode cL_formatOrder 1 = .ok (.iconst 0, 1) := by decide +kernel
theorem dL_formatOrder_2 : decode cL_formatOrder 2 = .ok (.aload_n 0, 1) := by decide +kernel
theorem dL_formatOrder_3 : decode cL_formatOrder 3 = .ok (.iload_n 1, 1) := by decide +kernel
theorem dL_formatOrder_4 : decode cL_formatOrder 4 = .ok (.invokevirtual 130, 3) := by decide +kernel
theorem dL_formatOrder_7 : decode cL_formatOrder 7 = .ok (.i2l, 1) := by decide +kernel
theorem dL_formatOrder_8 : decode cL_formatOrder 8 = .ok (.lastore, 1) := by decide +kernel
theorem dL_formatOrder_9 : decode cL_formatOrder 9 = .ok (.goto 6, 3) := by decide +kernel
theorem dL_formatOrder_12 : decode cL_formatOrder 12 = .ok (.astore_n 3, 1) := by decide +kernel
theorem dL_formatOrder_13 : decode cL_formatOrder 13 = .ok (.iconst 1, 1) := by decide +kernel
theorem dL_formatOrder_14 : decode cL_formatOrder 14 = .ok (.ireturn, 1) := by decide +kernel
theorem dL_formatOrder_15 : decode cL_formatOrder 15 = .ok (.iconst 0, 1) := by decide +kernel
theorem dL_formatOrder_16 : decode cL_formatOrder 16 = .ok (.ireturn, 1) := by decide +kernel
theorem dL_lineChar_0 : decode cL_lineChar 0 = .ok (.aload_n 2, 1) := by decide +kernel
theorem dL_lineChar_1 : decode cL_lineChar 1 = .ok (.iconst 0, 1) := by decide +kernel
theorem dL_lineChar_2 : decode cL_lineChar 2 = .ok (.aload_n 0, 1) := by decide +kernel
theorem dL_lineChar_3 : decode cL_lineChar 3 = .ok (.iload_n 1, 1) := by decide +kernel
theorem dL_lineChar_4 : decode cL_lineChar 4 = .ok (.invokevirtual 133, 3) := by decide +kernel
theorem dL_lineChar_7 : decode cL_lineChar 7 = .ok (.i2l, 1) := by decide +kernel
theorem dL_lineChar_8 : decode cL_lineChar 8 = .ok (.lastore, 1) := by decide +kernel
theorem dL_lineChar_9 : decode cL_lineChar 9 = .ok (.goto 6, 3) := by decide +kernel
theorem dL_lineChar_12 : decode cL_lineChar 12 = .ok (.astore_n 3, 1) := by decide +kernel
theorem dL_lineChar_13 : decode cL_lineChar 13 = .ok (.iconst 1, 1) := by decide +kernel
theorem dL_lineChar_14 : decode cL_lineChar 14 = .ok (.ireturn, 1) := by decide +kernel
theorem dL_lineChar_15 : decode cL_lineChar 15 = .ok (.iconst 0, 1) := by decide +kernel
theorem dL_lineChar_16 : decode cL_lineChar 16 = .ok (.ireturn, 1) := by decide +kernel
theorem dL_append_0 : decode cL_append 0 = .ok (.aload_n 2, 1) := by decide +kernel
theorem dL_append_1 : decode cL_append 1 = .ok (.iconst 0, 1) := by decide +kernel
theorem dL_append_2 : decode cL_append 2 = .ok (.aload_n 0, 1) := by decide +kernel
theorem dL_append_3 : decode cL_append 3 = .ok (.iload_n 1, 1) := by decide +kernel
theorem dL_append_4 : decode cL_append 4 = .ok (.invokevirtual 137, 3) := by decide +kernel
theorem dL_append_7 : decode cL_append 7 = .ok (.i2l, 1) := by decide +kernel
theorem dL_append_8 : decode cL_append 8 = .ok (.lastore, 1) := by decide +kernel
theorem dL_append_9 : decode cL_append 9 = .ok (.goto 9, 3) := by decide +kernel
theorem dL_append_12 : decode cL_append 12 = .ok (.astore_n 3, 1) := by decide +kernel
theorem dL_append_13 : decode cL_append 13 = .ok (.iconst 1, 1) := by decide +kernel
theorem dL_append_14 : decode cL_append 14 = .ok (.ireturn, 1) := by decide +kernel
theorem dL_append_15 : decode cL_append 15 = .ok (.astore_n 3, 1) := by decide +kernel
theorem dL_append_16 : decode cL_append 16 = .ok (.iconst 2, 1) := by decide +kernel
theorem dL_append_17 : decode cL_append 17 = .ok (.ireturn, 1) := by decide +kernel
theorem dL_append_18 : decode cL_append 18 = .ok (.iconst 0, 1) := by decide +kernel
theorem dL_append_19 : decode cL_append 19 = .ok (.ireturn, 1) := by decide +kernel
theorem dL_run_0 : decode cL_run 0 = .ok (.aload_n 1, 1) := by decide +kernel
theorem dL_run_1 : decode cL_run 1 = .ok (.iconst 0, 1) := by decide +kernel
theorem dL_run_2 : decode cL_run 2 = .ok (.aload_n 0, 1) := by decide +kernel
theorem dL_run_3 : decode cL_run 3 = .ok (.invokevirtual 141, 3) := by decide +kernel
theorem dL_run_6 : decode cL_run 6 = .ok (.i2l, 1) := by decide +kernel
theorem dL_run_7 : decode cL_run 7 = .ok (.lastore, 1) := by decide +kernel
theorem dL_run_8 : decode cL_run 8 = .ok (.goto 9, 3) := by decide +kernel
theorem dL_run_11 : decode cL_run 11 = .ok (.astore_n 2, 1) := by decide +kernel
theorem dL_run_12 : decode cL_run 12 = .ok (.iconst 1, 1) := by decide +kernel
theorem dL_run_13 : decode cL_run 13 = .ok (.ireturn, 1) := by decide +kernel
theorem dL_run_14 : decode cL_run 14 = .ok (.astore_n 2, 1) := by decide +kernel
theorem dL_run_15 : decode cL_run 15 = .ok (.iconst 2, 1) := by decide +kernel
theorem dL_run_16 : decode cL_run 16 = .ok (.ireturn, 1) := by decide +kernel
theorem dL_run_17 : decode cL_run 17 = .ok (.iconst 0, 1) := by decide +kernel
theorem dL_run_18 : decode cL_run 18 = .ok (.ireturn, 1) := by decide +kernel
theorem dL_errorPosition_0 : decode cL_errorPosition 0 = .ok (.aload_n 1, 1) := by decide +kernel
theorem dL_errorPosition_1 : decode cL_errorPosition 1 = .ok (.iconst 0, 1) := by decide +kernel
theorem dL_errorPosition_2 : decode cL_errorPosition 2 = .ok (.aload_n 0, 1) := by decide +kernel
theorem dL_errorPosition_3 : decode cL_errorPosition 3 = .ok (.invokevirtual 144, 3) := by decide +kernel
theorem dL_errorPosition_6 : decode cL_errorPosition 6 = .ok (.i2l, 1) := by decide +kernel
theorem dL_errorPosition_7 : decode cL_errorPosition 7 = .ok (.lastore, 1) := by decide +kernel
theorem dL_errorPosition_8 : decode cL_errorPosition 8 = .ok (.goto 6, 3) := by decide +kernel
theorem dL_errorPosition_11 : decode cL_errorPosition 11 = .ok (.astore_n 2, 1) := by decide +kernel
theorem dL_errorPosition_12 : decode cL_errorPosition 12 = .ok (.iconst 1, 1) := by decide +kernel
theorem dL_errorPosition_13 : decode cL_errorPosition 13 = .ok (.ireturn, 1) := by decide +kernel
theorem dL_errorPosition_14 : decode cL_errorPosition 14 = .ok (.iconst 0, 1) := by decide +kernel
theorem dL_errorPosition_15 : decode cL_errorPosition 15 = .ok (.ireturn, 1) := by decide +kernel
theorem dL_failedCommand_0 : decode cL_failedCommand 0 = .ok (.aload_n 1, 1) := by decide +kernel
theorem dL_failedCommand_1 : decode cL_failedCommand 1 = .ok (.iconst 0, 1) := by decide +kernel
theorem dL_failedCommand_2 : decode cL_failedCommand 2 = .ok (.aload_n 0, 1) := by decide +kernel
theorem dL_failedCommand_3 : decode cL_failedCommand 3 = .ok (.invokevirtual 147, 3) := by decide +kernel
theorem dL_failedCommand_6 : decode cL_failedCommand 6 = .ok (.i2l, 1) := by decide +kernel
theorem dL_failedCommand_7 : decode cL_failedCommand 7 = .ok (.lastore, 1) := by decide +kernel
theorem dL_failedCommand_8 : decode cL_failedCommand 8 = .ok (.goto 6, 3) := by decide +kernel
theorem dL_failedCommand_11 : decode cL_failedCommand 11 = .ok (.astore_n 2, 1) := by decide +kernel
theorem dL_failedCommand_12 : decode cL_failedCommand 12 = .ok (.iconst 1, 1) := by decide +kernel
theorem dL_failedCommand_13 : decode cL_failedCommand 13 = .ok (.ireturn, 1) := by decide +kernel
theorem dL_failedCommand_14 : decode cL_failedCommand 14 = .ok (.iconst 0, 1) := by decide +kernel
theorem dL_failedCommand_15 : decode cL_failedCommand 15 = .ok (.ireturn, 1) := by decide +kernel
theorem dL_undo_0 : decode cL_undo 0 = .ok (.aload_n 1, 1) := by decide +kernel
theorem dL_undo_1 : decode cL_undo 1 = .ok (.iconst 0, 1) := by decide +kernel
theorem dL_undo_2 : decode cL_undo 2 = .ok (.aload_n 0, 1) := by decide +kernel
theorem dL_undo_3 : decode cL_undo 3 = .ok (.invokevirtual 150, 3) := by decide +kernel
theorem dL_undo_6 : decode cL_undo 6 = .ok (.i2l, 1) := by decide +kernel
theorem dL_undo_7 : decode cL_undo 7 = .ok (.lastore, 1) := by decide +kernel
theorem dL_undo_8 : decode cL_undo 8 = .ok (.goto 6, 3) := by decide +kernel
theorem dL_undo_11 : decode cL_undo 11 = .ok (.astore_n 2, 1) := by decide +kernel
theorem dL_undo_12 : decode cL_undo 12 = .ok (.iconst 1, 1) := by decide +kernel
theorem dL_undo_13 : decode cL_undo 13 = .ok (.ireturn, 1) := by decide +kernel
theorem dL_undo_14 : decode cL_undo 14 = .ok (.iconst 0, 1) := by decide +kernel
theorem dL_undo_15 : decode cL_undo 15 = .ok (.ireturn, 1) := by decide +kernel
theorem dL_restore_0 : decode cL_restore 0 = .ok (.aload_n 1, 1) := by decide +kernel
theorem dL_restore_1 : decode cL_restore 1 = .ok (.iconst 0, 1) := by decide +kernel
theorem dL_restore_2 : decode cL_restore 2 = .ok (.aload_n 0, 1) := by decide +kernel
theorem dL_restore_3 : decode cL_restore 3 = .ok (.invokevirtual 153, 3) := by decide +kernel
theorem dL_restore_6 : decode cL_restore 6 = .ok (.i2l, 1) := by decide +kernel
theorem dL_restore_7 : decode cL_restore 7 = .ok (.lastore, 1) := by decide +kernel
theorem dL_restore_8 : decode cL_restore 8 = .ok (.goto 6, 3) := by decide +kernel
theorem dL_restore_11 : decode cL_restore 11 = .ok (.astore_n 2, 1) := by decide +kernel
theorem dL_restore_12 : decode cL_restore 12 = .ok (.iconst 1, 1) := by decide +kernel
theorem dL_restore_13 : decode cL_restore 13 = .ok (.ireturn, 1) := by decide +kernel
theorem dL_restore_14 : decode cL_restore 14 = .ok (.iconst 0, 1) := by decide +kernel
theorem dL_restore_15 : decode cL_restore 15 = .ok (.ireturn, 1) := by decide +kernel
theorem dL_law_0 : decode cL_law 0 = .ok (.new 8, 3) := by decide +kernel
theorem dL_law_3 : decode cL_law 3 = .ok (.dup, 1) := by decide +kernel
theorem dL_law_4 : decode cL_law 4 = .ok (.invokespecial 156, 3) := by decide +kernel
theorem dL_law_7 : decode cL_law 7 = .ok (.astore_n 1, 1) := by decide +kernel
theorem dL_law_8 : decode cL_law 8 = .ok (.new 157, 3) := by decide +kernel
theorem dL_law_11 : decode cL_law 11 = .ok (.dup, 1) := by decide +kernel
theorem dL_law_12 : decode cL_law 12 = .ok (.invokespecial 159, 3) := by decide +kernel
theorem dL_law_15 : decode cL_law 15 = .ok (.astore_n 2, 1) := by decide +kernel
theorem dL_law_16 : decode cL_law 16 = .ok (.iconst 1, 1) := by decide +kernel
theorem dL_law_17 : decode cL_law 17 = .ok (.newarray .long, 2) := by decide +kernel
theorem dL_law_19 : decode cL_law 19 = .ok (.astore_n 3, 1) := by decide +kernel
theorem dL_law_20 : decode cL_law 20 = .ok (.iconst 1, 1) := by decide +kernel
theorem dL_law_21 : decode cL_law 21 = .ok (.newarray .double, 2) := by decide +kernel
theorem dL_law_23 : decode cL_law 23 = .ok (.astore 4, 2) := by decide +kernel
theorem dL_law_25 : decode cL_law 25 = .ok (.iconst 0, 1) := by decide +kernel
theorem dL_law_26 : decode cL_law 26 = .ok (.istore 5, 2) := by decide +kernel
theorem dL_law_28 : decode cL_law 28 = .ok (.iload 5, 2) := by decide +kernel
theorem dL_law_30 : decode cL_law 30 = .ok (.aload_n 0, 1) := by decide +kernel
theorem dL_law_31 : decode cL_law 31 = .ok (.arraylength, 1) := by decide +kernel
theorem dL_law_32 : decode cL_law 32 = .ok (.iconst 5, 1) := by decide +kernel
theorem dL_law_33 : decode cL_law 33 = .ok (.isub, 1) := by decide +kernel
theorem dL_law_34 : decode cL_law 34 = .ok (.if_icmp .gt 3492, 3) := by decide +kernel
theorem dL_law_37 : decode cL_law 37 = .ok (.aload_n 0, 1) := by decide +kernel
theorem dL_law_38 : decode cL_law 38 = .ok (.iload 5, 2) := by decide +kernel
theorem dL_law_40 : decode cL_law 40 = .ok (.iaload, 1) := by decide +kernel
theorem dL_law_41 : decode cL_law 41 = .ok (.bipush 63, 2) := by decide +kernel
theorem dL_law_43 : decode cL_law 43 = .ok (.iand, 1) := by decide +kernel
theorem dL_law_44 : decode cL_law 44 = .ok (.tableswitch 3476 0 63 #[272, 328, 418, 486, 578, 634, 678, 734, 812, 890, 968, 1009, 1065, 1131, 1144, 1222, 1300, 1378, 1434, 1490, 1553, 1609, 1665, 1721, 1734, 1790, 1846, 1902, 1980, 2036, 2092, 2105, 2118, 2161, 2204, 2247, 2290, 2333, 2376, 2419, 2432, 2510, 2566, 2644, 2722, 2765, 2808, 2821, 2834, 2847, 2912, 2978, 2991, 3047, 3103, 3116, 3172, 3230, 3274, 3318, 3362, 3375, 3419, 3432], 272) := by decide +kernel
theorem dL_law_316 : decode cL_law 316 = .ok (.aload_n 1, 1) := by decide +kernel
theorem dL_law_317 : decode cL_law 317 = .ok (.aload_n 0, 1) := by decide +kernel
theorem dL_law_318 : decode cL_law 318 = .ok (.iload 5, 2) := by decide +kernel
theorem dL_law_320 : decode cL_law 320 = .ok (.iconst 1, 1) := by decide +kernel
theorem dL_law_321 : decode cL_law 321 = .ok (.iadd, 1) := by decide +kernel
theorem dL_law_322 : decode cL_law 322 = .ok (.iaload, 1) := by decide +kernel
theorem dL_law_323 : decode cL_law 323 = .ok (.aload_n 3, 1) := by decide +kernel
theorem dL_law_324 : decode cL_law 324 = .ok (.invokestatic 160, 3) := by decide +kernel
theorem dL_law_327 : decode cL_law 327 = .ok (.istore 6, 2) := by decide +kernel
theorem dL_law_329 : decode cL_law 329 = .ok (.aload_n 2, 1) := by decide +kernel
theorem dL_law_330 : decode cL_law 330 = .ok (.aload_n 0, 1) := by decide +kernel
theorem dL_law_331 : decode cL_law 331 = .ok (.iload 5, 2) := by decide +kernel
theorem dL_law_333 : decode cL_law 333 = .ok (.iconst 1, 1) := by decide +kernel
theorem dL_law_334 : decode cL_law 334 = .ok (.iadd, 1) := by decide +kernel
theorem dL_law_335 : decode cL_law 335 = .ok (.iaload, 1) := by decide +kernel
theorem dL_law_336 : decode cL_law 336 = .ok (.invokevirtual 165, 3) := by decide +kernel
theorem dL_law_339 : decode cL_law 339 = .ok (.istore 7, 2) := by decide +kernel
theorem dL_law_341 : decode cL_law 341 = .ok (.aload_n 2, 1) := by decide +kernel
theorem dL_law_342 : decode cL_law 342 = .ok (.invokevirtual 166, 3) := by decide +kernel
theorem dL_law_345 : decode cL_law 345 = .ok (.iload 6, 2) := by decide +kernel
theorem dL_law_347 : decode cL_law 347 = .ok (.if_icmp .eq 5, 3) := by decide +kernel
theorem dL_law_350 : decode cL_law 350 = .ok (.iconst 0, 1) := by decide +kernel
theorem dL_law_351 : decode cL_law 351 = .ok (.ireturn, 1) := by decide +kernel
