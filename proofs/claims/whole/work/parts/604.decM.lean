theorem dX9_init_0 : decode cX9_init 0 = .ok (.aload_n 0, 1) := by decide +kernel
theorem dX9_init_1 : decode cX9_init 1 = .ok (.invokespecial 1, 3) := by decide +kernel
theorem dX9_init_4 : decode cX9_init 4 = .ok (.aload_n 0, 1) := by decide +kernel
theorem dX9_init_5 : decode cX9_init 5 = .ok (.sipush 1236, 3) := by decide +kernel
theorem dX9_init_8 : decode cX9_init 8 = .ok (.newarray .int, 2) := by decide +kernel
theorem dX9_init_10 : decode cX9_init 10 = .ok (.putfield 9, 3) := by decide +kernel
theorem dX9_init_13 : decode cX9_init 13 = .ok (.aload_n 0, 1) := by decide +kernel
theorem dX9_init_14 : decode cX9_init 14 = .ok (.sipush 240, 3) := by decide +kernel
theorem dX9_init_17 : decode cX9_init 17 = .ok (.newarray .char, 2) := by decide +kernel
theorem dX9_init_19 : decode cX9_init 19 = .ok (.putfield 13, 3) := by decide +kernel
theorem dX9_init_22 : decode cX9_init 22 = .ok (.aload_n 0, 1) := by decide +kernel
theorem dX9_init_23 : decode cX9_init 23 = .ok (.bipush 60, 2) := by decide +kernel
theorem dX9_init_25 : decode cX9_init 25 = .ok (.newarray .char, 2) := by decide +kernel
theorem dX9_init_27 : decode cX9_init 27 = .ok (.putfield 17, 3) := by decide +kernel
theorem dX9_init_30 : decode cX9_init 30 = .ok (.aload_n 0, 1) := by decide +kernel
theorem dX9_init_31 : decode cX9_init 31 = .ok (.iconst (-1), 1) := by decide +kernel
theorem dX9_init_32 : decode cX9_init 32 = .ok (.putfield 20, 3) := by decide +kernel
theorem dX9_init_35 : decode cX9_init 35 = .ok (.aload_n 0, 1) := by decide +kernel
theorem dX9_init_36 : decode cX9_init 36 = .ok (.iconst (-1), 1) := by decide +kernel
theorem dX9_init_37 : decode cX9_init 37 = .ok (.putfield 24, 3) := by decide +kernel
theorem dX9_init_40 : decode cX9_init 40 = .ok (.aload_n 0, 1) := by decide +kernel
theorem dX9_init_41 : decode cX9_init 41 = .ok (.sipush 305, 3) := by decide +kernel
theorem dX9_init_44 : decode cX9_init 44 = .ok (.newarray .int, 2) := by decide +kernel
theorem dX9_init_46 : decode cX9_init 46 = .ok (.putfield 27, 3) := by decide +kernel
theorem dX9_init_49 : decode cX9_init 49 = .ok (.aload_n 0, 1) := by decide +kernel
theorem dX9_init_50 : decode cX9_init 50 = .ok (.getfield 9, 3) := by decide +kernel
theorem dX9_init_53 : decode cX9_init 53 = .ok (.bipush 9, 2) := by decide +kernel
theorem dX9_init_55 : decode cX9_init 55 = .ok (.bipush 12, 2) := by decide +kernel
theorem dX9_init_57 : decode cX9_init 57 = .ok (.iastore, 1) := by decide +kernel
theorem dX9_init_58 : decode cX9_init 58 = .ok (.aload_n 0, 1) := by decide +kernel
theorem dX9_init_59 : decode cX9_init 59 = .ok (.getfield 9, 3) := by decide +kernel
theorem dX9_init_62 : decode cX9_init 62 = .ok (.bipush 10, 2) := by decide +kernel
theorem dX9_init_64 : decode cX9_init 64 = .ok (.iconst 2, 1) := by decide +kernel
theorem dX9_init_65 : decode cX9_init 65 = .ok (.iastore, 1) := by decide +kernel
theorem dX9_init_66 : decode cX9_init 66 = .ok (.aload_n 0, 1) := by decide +kernel
theorem dX9_init_67 : decode cX9_init 67 = .ok (.getfield 9, 3) := by decide +kernel
theorem dX9_init_70 : decode cX9_init 70 = .ok (.bipush 11, 2) := by decide +kernel
theorem dX9_init_72 : decode cX9_init 72 = .ok (.iconst 1, 1) := by decide +kernel
theorem dX9_init_73 : decode cX9_init 73 = .ok (.iastore, 1) := by decide +kernel
theorem dX9_init_74 : decode cX9_init 74 = .ok (.return_, 1) := by decide +kernel
theorem dX9_thrown_0 : decode cX9_thrown 0 = .ok (.aload_n 0, 1) := by decide +kernel
theorem dX9_thrown_1 : decode cX9_thrown 1 = .ok (.getfield 30, 3) := by decide +kernel
theorem dX9_thrown_4 : decode cX9_thrown 4 = .ok (.ireturn, 1) := by decide +kernel
theorem dX9_in_0 : decode cX9_in 0 = .ok (.iload_n 0, 1) := by decide +kernel
theorem dX9_in_1 : decode cX9_in 1 = .ok (.iload_n 1, 1) := by decide +kernel
theorem dX9_in_2 : decode cX9_in 2 = .ok (.if_icmp .lt 12, 3) := by decide +kernel
theorem dX9_in_5 : decode cX9_in 5 = .ok (.iload_n 0, 1) := by decide +kernel
theorem dX9_in_6 : decode cX9_in 6 = .ok (.iload_n 2, 1) := by decide +kernel
theorem dX9_in_7 : decode cX9_in 7 = .ok (.if_icmp .gt 7, 3) := by decide +kernel
theorem dX9_in_10 : decode cX9_in 10 = .ok (.iconst 1, 1) := by decide +kernel
theorem dX9_in_11 : decode cX9_in 11 = .ok (.goto 4, 3) := by decide +kernel
theorem dX9_in_14 : decode cX9_in 14 = .ok (.iconst 0, 1) := by decide +kernel
theorem dX9_in_15 : decode cX9_in 15 = .ok (.ireturn, 1) := by decide +kernel
theorem dX9_copies_0 : decode cX9_copies 0 = .ok (.iconst 0, 1) := by decide +kernel
theorem dX9_copies_1 : decode cX9_copies 1 = .ok (.istore_n 3, 1) := by decide +kernel
theorem dX9_copies_2 : decode cX9_copies 2 = .ok (.iload_n 3, 1) := by decide +kernel
theorem dX9_copies_3 : decode cX9_copies 3 = .ok (.bipush 103, 2) := by decide +kernel
theorem dX9_copies_5 : decode cX9_copies 5 = .ok (.if_icmp .ge 31, 3) := by decide +kernel
theorem dX9_copies_8 : decode cX9_copies 8 = .ok (.aload_n 0, 1) := by decide +kernel
theorem dX9_copies_9 : decode cX9_copies 9 = .ok (.getfield 9, 3) := by decide +kernel
theorem dX9_copies_12 : decode cX9_copies 12 = .ok (.bipush 103, 2) := by decide +kernel
theorem dX9_copies_14 : decode cX9_copies 14 = .ok (.iload_n 2, 1) := by decide +kernel
theorem dX9_copies_15 : decode cX9_copies 15 = .ok (.imul, 1) := by decide +kernel
theorem dX9_copies_16 : decode cX9_copies 16 = .ok (.iload_n 3, 1) := by decide +kernel
theorem dX9_copies_17 : decode cX9_copies 17 = .ok (.iadd, 1) := by decide +kernel
theorem dX9_copies_18 : decode cX9_copies 18 = .ok (.aload_n 0, 1) := by decide +kernel
theorem dX9_copies_19 : decode cX9_copies 19 = .ok (.getfield 9, 3) := by decide +kernel
theorem dX9_copies_22 : decode cX9_copies 22 = .ok (.bipush 103, 2) := by decide +kernel
theorem dX9_copies_24 : decode cX9_copies 24 = .ok (.iload_n 1, 1) := by decide +kernel
theorem dX9_copies_25 : decode cX9_copies 25 = .ok (.imul, 1) := by decide +kernel
theorem dX9_copies_26 : decode cX9_copies 26 = .ok (.iload_n 3, 1) := by decide +kernel
theorem dX9_copies_27 : decode cX9_copies 27 = .ok (.iadd, 1) := by decide +kernel
theorem dX9_copies_28 : decode cX9_copies 28 = .ok (.iaload, 1) := by decide +kernel
theorem dX9_copies_29 : decode cX9_copies 29 = .ok (.iastore, 1) := by decide +kernel
theorem dX9_copies_30 : decode cX9_copies 30 = .ok (.iinc 3 1, 3) := by decide +kernel
theorem dX9_copies_33 : decode cX9_copies 33 = .ok (.goto (-31), 3) := by decide +kernel
theorem dX9_copies_36 : decode cX9_copies 36 = .ok (.return_, 1) := by decide +kernel
theorem dX9_begins_0 : decode cX9_begins 0 = .ok (.aload_n 0, 1) := by decide +kernel
theorem dX9_begins_1 : decode cX9_begins 1 = .ok (.iconst 0, 1) := by decide +kernel
theorem dX9_begins_2 : decode cX9_begins 2 = .ok (.bipush 10, 2) := by decide +kernel
theorem dX9_begins_4 : decode cX9_begins 4 = .ok (.invokevirtual 33, 3) := by decide +kernel
theorem dX9_begins_7 : decode cX9_begins 7 = .ok (.return_, 1) := by decide +kernel
theorem dX9_ends_0 : decode cX9_ends 0 = .ok (.aload_n 0, 1) := by decide +kernel
theorem dX9_ends_1 : decode cX9_ends 1 = .ok (.iload_n 1, 1) := by decide +kernel
theorem dX9_ends_2 : decode cX9_ends 2 = .ok (.iconst 1, 1) := by decide +kernel
theorem dX9_ends_3 : decode cX9_ends 3 = .ok (.if_icmp .ne 7, 3) := by decide +kernel
theorem dX9_ends_6 : decode cX9_ends 6 = .ok (.iload_n 2, 1) := by decide +kernel
theorem dX9_ends_7 : decode cX9_ends 7 = .ok (.goto 33, 3) := by decide +kernel
theorem dX9_ends_10 : decode cX9_ends 10 = .ok (.iload_n 1, 1) := by decide +kernel
theorem dX9_ends_11 : decode cX9_ends 11 = .ok (.iconst 2, 1) := by decide +kernel
theorem dX9_ends_12 : decode cX9_ends 12 = .ok (.if_icmp .ne 7, 3) := by decide +kernel
theorem dX9_ends_15 : decode cX9_ends 15 = .ok (.iload_n 3, 1) := by decide +kernel
theorem dX9_ends_16 : decode cX9_ends 16 = .ok (.goto 24, 3) := by decide +kernel
theorem dX9_ends_19 : decode cX9_ends 19 = .ok (.iload_n 1, 1) := by decide +kernel
theorem dX9_ends_20 : decode cX9_ends 20 = .ok (.iconst 3, 1) := by decide +kernel
theorem dX9_ends_21 : decode cX9_ends 21 = .ok (.if_icmp .ne 8, 3) := by decide +kernel
theorem dX9_ends_24 : decode cX9_ends 24 = .ok (.iload 4, 2) := by decide +kernel
theorem dX9_ends_26 : decode cX9_ends 26 = .ok (.goto 14, 3) := by decide +kernel
theorem dX9_ends_29 : decode cX9_ends 29 = .ok (.iload_n 1, 1) := by decide +kernel
theorem dX9_ends_30 : decode cX9_ends 30 = .ok (.iconst 4, 1) := by decide +kernel
theorem dX9_ends_31 : decode cX9_ends 31 = .ok (.if_icmp .ne 8, 3) := by decide +kernel
theorem dX9_ends_34 : decode cX9_ends 34 = .ok (.iload 5, 2) := by decide +kernel
theorem dX9_ends_36 : decode cX9_ends 36 = .ok (.goto 4, 3) := by decide +kernel
theorem dX9_ends_39 : decode cX9_ends 39 = .ok (.iconst 0, 1) := by decide +kernel
theorem dX9_ends_40 : decode cX9_ends 40 = .ok (.putfield 30, 3) := by decide +kernel
theorem dX9_ends_43 : decode cX9_ends 43 = .ok (.aload_n 0, 1) := by decide +kernel
theorem dX9_ends_44 : decode cX9_ends 44 = .ok (.getfield 30, 3) := by decide +kernel
theorem dX9_ends_47 : decode cX9_ends 47 = .ok (.ifCond .eq 12, 3) := by decide +kernel
theorem dX9_ends_50 : decode cX9_ends 50 = .ok (.aload_n 0, 1) := by decide +kernel
theorem dX9_ends_51 : decode cX9_ends 51 = .ok (.bipush 10, 2) := by decide +kernel
theorem dX9_ends_53 : decode cX9_ends 53 = .ok (.iconst 0, 1) := by decide +kernel
theorem dX9_ends_54 : decode cX9_ends 54 = .ok (.invokevirtual 33, 3) := by decide +kernel
theorem dX9_ends_57 : decode cX9_ends 57 = .ok (.iconst 0, 1) := by decide +kernel
theorem dX9_ends_58 : decode cX9_ends 58 = .ok (.ireturn, 1) := by decide +kernel
theorem dX9_ends_59 : decode cX9_ends 59 = .ok (.aload_n 0, 1) := by decide +kernel
theorem dX9_ends_60 : decode cX9_ends 60 = .ok (.getfield 37, 3) := by decide +kernel
theorem dX9_ends_63 : decode cX9_ends 63 = .ok (.bipush 8, 2) := by decide +kernel
theorem dX9_ends_65 : decode cX9_ends 65 = .ok (.if_icmp .ne 39, 3) := by decide +kernel
theorem dX9_ends_68 : decode cX9_ends 68 = .ok (.iconst 1, 1) := by decide +kernel
theorem dX9_ends_69 : decode cX9_ends 69 = .ok (.istore 6, 2) := by decide +kernel
theorem dX9_ends_71 : decode cX9_ends 71 = .ok (.iload 6, 2) := by decide +kernel
theorem dX9_ends_73 : decode cX9_ends 73 = .ok (.bipush 8, 2) := by decide +kernel
theorem dX9_ends_75 : decode cX9_ends 75 = .ok (.if_icmp .ge 19, 3) := by decide +kernel
theorem dX9_ends_78 : decode cX9_ends 78 = .ok (.aload_n 0, 1) := by decide +kernel
theorem dX9_ends_79 : decode cX9_ends 79 = .ok (.iload 6, 2) := by decide +kernel
theorem dX9_ends_81 : decode cX9_ends 81 = .ok (.iconst 1, 1) := by decide +kernel
theorem dX9_ends_82 : decode cX9_ends 82 = .ok (.iadd, 1) := by decide +kernel
theorem dX9_ends_83 : decode cX9_ends 83 = .ok (.iload 6, 2) := by decide +kernel
theorem dX9_ends_85 : decode cX9_ends 85 = .ok (.invokevirtual 33, 3) := by decide +kernel
theorem dX9_ends_88 : decode cX9_ends 88 = .ok (.iinc 6 1, 3) := by decide +kernel
theorem dX9_ends_91 : decode cX9_ends 91 = .ok (.goto (-20), 3) := by decide +kernel
theorem dX9_ends_94 : decode cX9_ends 94 = .ok (.aload_n 0, 1) := by decide +kernel
theorem dX9_ends_95 : decode cX9_ends 95 = .ok (.dup, 1) := by decide +kernel
theorem dX9_ends_96 : decode cX9_ends 96 = .ok (.getfield 37, 3) := by decide +kernel
theorem dX9_ends_99 : decode cX9_ends 99 = .ok (.iconst 1, 1) := by decide +kernel
theorem dX9_ends_100 : decode cX9_ends 100 = .ok (.isub, 1) := by decide +kernel
theorem dX9_ends_101 : decode cX9_ends 101 = .ok (.putfield 37, 3) := by decide +kernel
theorem dX9_ends_104 : decode cX9_ends 104 = .ok (.aload_n 0, 1) := by decide +kernel
theorem dX9_ends_105 : decode cX9_ends 105 = .ok (.dup, 1) := by decide +kernel
theorem dX9_ends_106 : decode cX9_ends 106 = .ok (.getfield 37, 3) := by decide +kernel
theorem dX9_ends_109 : decode cX9_ends 109 = .ok (.iconst 1, 1) := by decide +kernel
theorem dX9_ends_110 : decode cX9_ends 110 = .ok (.iadd, 1) := by decide +kernel
theorem dX9_ends_111 : decode cX9_ends 111 = .ok (.putfield 37, 3) := by decide +kernel
theorem dX9_ends_114 : decode cX9_ends 114 = .ok (.aload_n 0, 1) := by decide +kernel
theorem dX9_ends_115 : decode cX9_ends 115 = .ok (.bipush 10, 2) := by decide +kernel
theorem dX9_ends_117 : decode cX9_ends 117 = .ok (.aload_n 0, 1) := by decide +kernel
theorem dX9_ends_118 : decode cX9_ends 118 = .ok (.getfield 37, 3) := by decide +kernel
theorem dX9_ends_121 : decode cX9_ends 121 = .ok (.invokevirtual 33, 3) := by decide +kernel
theorem dX9_ends_124 : decode cX9_ends 124 = .ok (.aload_n 0, 1) := by decide +kernel
theorem dX9_ends_125 : decode cX9_ends 125 = .ok (.getfield 40, 3) := by decide +kernel
theorem dX9_ends_128 : decode cX9_ends 128 = .ok (.ireturn, 1) := by decide +kernel
theorem dX9_isFine_0 : decode cX9_isFine 0 = .ok (.aload_n 0, 1) := by decide +kernel
theorem dX9_isFine_1 : decode cX9_isFine 1 = .ok (.iload_n 1, 1) := by decide +kernel
theorem dX9_isFine_2 : decode cX9_isFine 2 = .ok (.ifCond .eq 7, 3) := by decide +kernel
theorem dX9_isFine_5 : decode cX9_isFine 5 = .ok (.iconst 0, 1) := by decide +kernel
theorem dX9_isFine_6 : decode cX9_isFine 6 = .ok (.goto 4, 3) := by decide +kernel
theorem dX9_isFine_9 : decode cX9_isFine 9 = .ok (.iconst 1, 1) := by decide +kernel
theorem dX9_isFine_10 : decode cX9_isFine 10 = .ok (.putfield 30, 3) := by decide +kernel
theorem dX9_isFine_13 : decode cX9_isFine 13 = .ok (.iload_n 1, 1) := by decide +kernel
theorem dX9_isFine_14 : decode cX9_isFine 14 = .ok (.ireturn, 1) := by decide +kernel
theorem dX9_eighths_0 : decode cX9_eighths 0 = .ok (.iload_n 0, 1) := by decide +kernel
theorem dX9_eighths_1 : decode cX9_eighths 1 = .ok (.i2f, 1) := by decide +kernel
theorem dX9_eighths_2 : decode cX9_eighths 2 = .ok (.ldc 43, 2) := by decide +kernel
theorem dX9_eighths_4 : decode cX9_eighths 4 = .ok (.fdiv, 1) := by decide +kernel
theorem dX9_eighths_5 : decode cX9_eighths 5 = .ok (.freturn, 1) := by decide +kernel
theorem dX9_halves_0 : decode cX9_halves 0 = .ok (.iload_n 0, 1) := by decide +kernel
theorem dX9_halves_1 : decode cX9_halves 1 = .ok (.i2f, 1) := by decide +kernel
theorem dX9_halves_2 : decode cX9_halves 2 = .ok (.fconst 2, 1) := by decide +kernel
theorem dX9_halves_3 : decode cX9_halves 3 = .ok (.fdiv, 1) := by decide +kernel
theorem dX9_halves_4 : decode cX9_halves 4 = .ok (.freturn, 1) := by decide +kernel
theorem dX9_k_0 : decode cX9_k 0 = .ok (.aload_n 0, 1) := by decide +kernel
theorem dX9_k_1 : decode cX9_k 1 = .ok (.getfield 9, 3) := by decide +kernel
theorem dX9_k_4 : decode cX9_k 4 = .ok (.bipush 33, 2) := by decide +kernel
theorem dX9_k_6 : decode cX9_k 6 = .ok (.iconst 5, 1) := by decide +kernel
theorem dX9_k_7 : decode cX9_k 7 = .ok (.iload_n 1, 1) := by decide +kernel
theorem dX9_k_8 : decode cX9_k 8 = .ok (.imul, 1) := by decide +kernel
theorem dX9_k_9 : decode cX9_k 9 = .ok (.iadd, 1) := by decide +kernel
theorem dX9_k_10 : decode cX9_k 10 = .ok (.iload_n 2, 1) := by decide +kernel
theorem dX9_k_11 : decode cX9_k 11 = .ok (.iadd, 1) := by decide +kernel
theorem dX9_k_12 : decode cX9_k 12 = .ok (.iaload, 1) := by decide +kernel
theorem dX9_k_13 : decode cX9_k 13 = .ok (.ireturn, 1) := by decide +kernel
theorem dX9_set_0 : decode cX9_set 0 = .ok (.aload_n 0, 1) := by decide +kernel
theorem dX9_set_1 : decode cX9_set 1 = .ok (.getfield 9, 3) := by decide +kernel
theorem dX9_set_4 : decode cX9_set 4 = .ok (.bipush 33, 2) := by decide +kernel
theorem dX9_set_6 : decode cX9_set 6 = .ok (.iconst 5, 1) := by decide +kernel
theorem dX9_set_7 : decode cX9_set 7 = .ok (.iload_n 1, 1) := by decide +kernel
theorem dX9_set_8 : decode cX9_set 8 = .ok (.imul, 1) := by decide +kernel
theorem dX9_set_9 : decode cX9_set 9 = .ok (.iadd, 1) := by decide +kernel
theorem dX9_set_10 : decode cX9_set 10 = .ok (.iload_n 2, 1) := by decide +kernel
theorem dX9_set_11 : decode cX9_set 11 = .ok (.iadd, 1) := by decide +kernel
theorem dX9_set_12 : decode cX9_set 12 = .ok (.iload_n 3, 1) := by decide +kernel
theorem dX9_set_13 : decode cX9_set 13 = .ok (.iastore, 1) := by decide +kernel
theorem dX9_set_14 : decode cX9_set 14 = .ok (.return_, 1) := by decide +kernel
theorem dX9_o_0 : decode cX9_o 0 = .ok (.aload_n 0, 1) := by decide +kernel
theorem dX9_o_1 : decode cX9_o 1 = .ok (.getfield 9, 3) := by decide +kernel
theorem dX9_o_4 : decode cX9_o 4 = .ok (.bipush 53, 2) := by decide +kernel
theorem dX9_o_6 : decode cX9_o 6 = .ok (.iconst 5, 1) := by decide +kernel
theorem dX9_o_7 : decode cX9_o 7 = .ok (.iload_n 1, 1) := by decide +kernel
theorem dX9_o_8 : decode cX9_o 8 = .ok (.imul, 1) := by decide +kernel
theorem dX9_o_9 : decode cX9_o 9 = .ok (.iadd, 1) := by decide +kernel
theorem dX9_o_10 : decode cX9_o 10 = .ok (.iload_n 2, 1) := by decide +kernel
theorem dX9_o_11 : decode cX9_o 11 = .ok (.iadd, 1) := by decide +kernel
theorem dX9_o_12 : decode cX9_o 12 = .ok (.iaload, 1) := by decide +kernel
theorem dX9_o_13 : decode cX9_o 13 = .ok (.ireturn, 1) := by decide +kernel
theorem dX9_isKettle_0 : decode cX9_isKettle 0 = .ok (.iload_n 1, 1) := by decide +kernel
theorem dX9_isKettle_1 : decode cX9_isKettle 1 = .ok (.iconst 0, 1) := by decide +kernel
theorem dX9_isKettle_2 : decode cX9_isKettle 2 = .ok (.aload_n 0, 1) := by decide +kernel
theorem dX9_isKettle_3 : decode cX9_isKettle 3 = .ok (.getfield 9, 3) := by decide +kernel
theorem dX9_isKettle_6 : decode cX9_isKettle 6 = .ok (.iconst 1, 1) := by decide +kernel
theorem dX9_isKettle_7 : decode cX9_isKettle 7 = .ok (.iaload, 1) := by decide +kernel
theorem dX9_isKettle_8 : decode cX9_isKettle 8 = .ok (.iconst 1, 1) := by decide +kernel
theorem dX9_isKettle_9 : decode cX9_isKettle 9 = .ok (.isub, 1) := by decide +kernel
theorem dX9_isKettle_10 : decode cX9_isKettle 10 = .ok (.invokestatic 44, 3) := by decide +kernel
theorem dX9_isKettle_13 : decode cX9_isKettle 13 = .ok (.ireturn, 1) := by decide +kernel
theorem dX9_find_0 : decode cX9_find 0 = .ok (.iconst 0, 1) := by decide +kernel
theorem dX9_find_1 : decode cX9_find 1 = .ok (.istore_n 2, 1) := by decide +kernel
theorem dX9_find_2 : decode cX9_find 2 = .ok (.iload_n 2, 1) := by decide +kernel
theorem dX9_find_3 : decode cX9_find 3 = .ok (.aload_n 0, 1) := by decide +kernel
theorem dX9_find_4 : decode cX9_find 4 = .ok (.getfield 9, 3) := by decide +kernel
theorem dX9_find_7 : decode cX9_find 7 = .ok (.iconst 2, 1) := by decide +kernel
theorem dX9_find_8 : decode cX9_find 8 = .ok (.iaload, 1) := by decide +kernel
theorem dX9_find_9 : decode cX9_find 9 = .ok (.if_icmp .ge 21, 3) := by decide +kernel
theorem dX9_find_12 : decode cX9_find 12 = .ok (.aload_n 0, 1) := by decide +kernel
theorem dX9_find_13 : decode cX9_find 13 = .ok (.iload_n 2, 1) := by decide +kernel
theorem dX9_find_14 : decode cX9_find 14 = .ok (.iconst 0, 1) := by decide +kernel
theorem dX9_find_15 : decode cX9_find 15 = .ok (.invokevirtual 48, 3) := by decide +kernel
theorem dX9_find_18 : decode cX9_find 18 = .ok (.iload_n 1, 1) := by decide +kernel
theorem dX9_find_19 : decode cX9_find 19 = .ok (.if_icmp .ne 5, 3) := by decide +kernel
theorem dX9_find_22 : decode cX9_find 22 = .ok (.iload_n 2, 1) := by decide +kernel
theorem dX9_find_23 : decode cX9_find 23 = .ok (.ireturn, 1) := by decide +kernel
theorem dX9_find_24 : decode cX9_find 24 = .ok (.iinc 2 1, 3) := by decide +kernel
theorem dX9_find_27 : decode cX9_find 27 = .ok (.goto (-25), 3) := by decide +kernel
theorem dX9_find_30 : decode cX9_find 30 = .ok (.iconst (-1), 1) := by decide +kernel
theorem dX9_find_31 : decode cX9_find 31 = .ok (.ireturn, 1) := by decide +kernel
theorem dX9_isAhead_0 : decode cX9_isAhead 0 = .ok (.aload_n 0, 1) := by decide +kernel
theorem dX9_isAhead_1 : decode cX9_isAhead 1 = .ok (.iload_n 1, 1) := by decide +kernel
theorem dX9_isAhead_2 : decode cX9_isAhead 2 = .ok (.iconst 4, 1) := by decide +kernel
theorem dX9_isAhead_3 : decode cX9_isAhead 3 = .ok (.invokevirtual 48, 3) := by decide +kernel
theorem dX9_isAhead_6 : decode cX9_isAhead 6 = .ok (.aload_n 0, 1) := by decide +kernel
theorem dX9_isAhead_7 : decode cX9_isAhead 7 = .ok (.iload_n 2, 1) := by decide +kernel
theorem dX9_isAhead_8 : decode cX9_isAhead 8 = .ok (.iconst 4, 1) := by decide +kernel
theorem dX9_isAhead_9 : decode cX9_isAhead 9 = .ok (.invokevirtual 48, 3) := by decide +kernel
theorem dX9_isAhead_12 : decode cX9_isAhead 12 = .ok (.if_icmp .gt 33, 3) := by decide +kernel
theorem dX9_isAhead_15 : decode cX9_isAhead 15 = .ok (.aload_n 0, 1) := by decide +kernel
theorem dX9_isAhead_16 : decode cX9_isAhead 16 = .ok (.iload_n 1, 1) := by decide +kernel
theorem dX9_isAhead_17 : decode cX9_isAhead 17 = .ok (.iconst 4, 1) := by decide +kernel
theorem dX9_isAhead_18 : decode cX9_isAhead 18 = .ok (.invokevirtual 48, 3) := by decide +kernel
theorem dX9_isAhead_21 : decode cX9_isAhead 21 = .ok (.aload_n 0, 1) := by decide +kernel
theorem dX9_isAhead_22 : decode cX9_isAhead 22 = .ok (.iload_n 2, 1) := by decide +kernel
theorem dX9_isAhead_23 : decode cX9_isAhead 23 = .ok (.iconst 4, 1) := by decide +kernel
theorem dX9_isAhead_24 : decode cX9_isAhead 24 = .ok (.invokevirtual 48, 3) := by decide +kernel
theorem dX9_isAhead_27 : decode cX9_isAhead 27 = .ok (.if_icmp .ne 22, 3) := by decide +kernel
theorem dX9_isAhead_30 : decode cX9_isAhead 30 = .ok (.aload_n 0, 1) := by decide +kernel
theorem dX9_isAhead_31 : decode cX9_isAhead 31 = .ok (.iload_n 1, 1) := by decide +kernel
theorem dX9_isAhead_32 : decode cX9_isAhead 32 = .ok (.iconst 0, 1) := by decide +kernel
theorem dX9_isAhead_33 : decode cX9_isAhead 33 = .ok (.invokevirtual 48, 3) := by decide +kernel
theorem dX9_isAhead_36 : decode cX9_isAhead 36 = .ok (.aload_n 0, 1) := by decide +kernel
theorem dX9_isAhead_37 : decode cX9_isAhead 37 = .ok (.iload_n 2, 1) := by decide +kernel
theorem dX9_isAhead_38 : decode cX9_isAhead 38 = .ok (.iconst 0, 1) := by decide +kernel
theorem dX9_isAhead_39 : decode cX9_isAhead 39 = .ok (.invokevirtual 48, 3) := by decide +kernel
theorem dX9_isAhead_42 : decode cX9_isAhead 42 = .ok (.if_icmp .ge 7, 3) := by decide +kernel
theorem dX9_isAhead_45 : decode cX9_isAhead 45 = .ok (.iconst 1, 1) := by decide +kernel
theorem dX9_isAhead_46 : decode cX9_isAhead 46 = .ok (.goto 4, 3) := by decide +kernel
theorem dX9_isAhead_49 : decode cX9_isAhead 49 = .ok (.iconst 0, 1) := by decide +kernel
theorem dX9_isAhead_50 : decode cX9_isAhead 50 = .ok (.ireturn, 1) := by decide +kernel
theorem dX9_rankOf_0 : decode cX9_rankOf 0 = .ok (.iconst 0, 1) := by decide +kernel
theorem dX9_rankOf_1 : decode cX9_rankOf 1 = .ok (.istore_n 2, 1) := by decide +kernel
theorem dX9_rankOf_2 : decode cX9_rankOf 2 = .ok (.iconst 0, 1) := by decide +kernel
theorem dX9_rankOf_3 : decode cX9_rankOf 3 = .ok (.istore_n 3, 1) := by decide +kernel
theorem dX9_rankOf_4 : decode cX9_rankOf 4 = .ok (.iload_n 3, 1) := by decide +kernel
theorem dX9_rankOf_5 : decode cX9_rankOf 5 = .ok (.aload_n 0, 1) := by decide +kernel
theorem dX9_rankOf_6 : decode cX9_rankOf 6 = .ok (.getfield 9, 3) := by decide +kernel
theorem dX9_rankOf_9 : decode cX9_rankOf 9 = .ok (.iconst 2, 1) := by decide +kernel
theorem dX9_rankOf_10 : decode cX9_rankOf 10 = .ok (.iaload, 1) := by decide +kernel
theorem dX9_rankOf_11 : decode cX9_rankOf 11 = .ok (.if_icmp .ge 26, 3) := by decide +kernel
theorem dX9_rankOf_14 : decode cX9_rankOf 14 = .ok (.iload_n 2, 1) := by decide +kernel
theorem dX9_rankOf_15 : decode cX9_rankOf 15 = .ok (.aload_n 0, 1) := by decide +kernel
theorem dX9_rankOf_16 : decode cX9_rankOf 16 = .ok (.iload_n 3, 1) := by decide +kernel
theorem dX9_rankOf_17 : decode cX9_rankOf 17 = .ok (.iload_n 1, 1) := by decide +kernel
theorem dX9_rankOf_18 : decode cX9_rankOf 18 = .ok (.invokevirtual 52, 3) := by decide +kernel
theorem dX9_rankOf_21 : decode cX9_rankOf 21 = .ok (.ifCond .eq 7, 3) := by decide +kernel
theorem dX9_rankOf_24 : decode cX9_rankOf 24 = .ok (.iconst 1, 1) := by decide +kernel
theorem dX9_rankOf_25 : decode cX9_rankOf 25 = .ok (.goto 4, 3) := by decide +kernel
theorem dX9_rankOf_28 : decode cX9_rankOf 28 = .ok (.iconst 0, 1) := by decide +kernel
theorem dX9_rankOf_29 : decode cX9_rankOf 29 = .ok (.iadd, 1) := by decide +kernel
theorem dX9_rankOf_30 : decode cX9_rankOf 30 = .ok (.istore_n 2, 1) := by decide +kernel
theorem dX9_rankOf_31 : decode cX9_rankOf 31 = .ok (.iinc 3 1, 3) := by decide +kernel
theorem dX9_rankOf_34 : decode cX9_rankOf 34 = .ok (.goto (-30), 3) := by decide +kernel
theorem dX9_rankOf_37 : decode cX9_rankOf 37 = .ok (.iload_n 2, 1) := by decide +kernel
theorem dX9_rankOf_38 : decode cX9_rankOf 38 = .ok (.ireturn, 1) := by decide +kernel
theorem dX9_ranked_0 : decode cX9_ranked 0 = .ok (.iconst 0, 1) := by decide +kernel
theorem dX9_ranked_1 : decode cX9_ranked 1 = .ok (.istore_n 2, 1) := by decide +kernel
theorem dX9_ranked_2 : decode cX9_ranked 2 = .ok (.iload_n 2, 1) := by decide +kernel
theorem dX9_ranked_3 : decode cX9_ranked 3 = .ok (.aload_n 0, 1) := by decide +kernel
theorem dX9_ranked_4 : decode cX9_ranked 4 = .ok (.getfield 9, 3) := by decide +kernel
theorem dX9_ranked_7 : decode cX9_ranked 7 = .ok (.iconst 2, 1) := by decide +kernel
theorem dX9_ranked_8 : decode cX9_ranked 8 = .ok (.iaload, 1) := by decide +kernel
theorem dX9_ranked_9 : decode cX9_ranked 9 = .ok (.if_icmp .ge 20, 3) := by decide +kernel
theorem dX9_ranked_12 : decode cX9_ranked 12 = .ok (.aload_n 0, 1) := by decide +kernel
theorem dX9_ranked_13 : decode cX9_ranked 13 = .ok (.iload_n 2, 1) := by decide +kernel
theorem dX9_ranked_14 : decode cX9_ranked 14 = .ok (.invokevirtual 56, 3) := by decide +kernel
theorem dX9_ranked_17 : decode cX9_ranked 17 = .ok (.iload_n 1, 1) := by decide +kernel
theorem dX9_ranked_18 : decode cX9_ranked 18 = .ok (.if_icmp .ne 5, 3) := by decide +kernel
theorem dX9_ranked_21 : decode cX9_ranked 21 = .ok (.iload_n 2, 1) := by decide +kernel
theorem dX9_ranked_22 : decode cX9_ranked 22 = .ok (.ireturn, 1) := by decide +kernel
theorem dX9_ranked_23 : decode cX9_ranked 23 = .ok (.iinc 2 1, 3) := by decide +kernel
theorem dX9_ranked_26 : decode cX9_ranked 26 = .ok (.goto (-24), 3) := by decide +kernel
theorem dX9_ranked_29 : decode cX9_ranked 29 = .ok (.iconst (-1), 1) := by decide +kernel
theorem dX9_ranked_30 : decode cX9_ranked 30 = .ok (.ireturn, 1) := by decide +kernel
theorem dX9_pourer_0 : decode cX9_pourer 0 = .ok (.iconst (-1), 1) := by decide +kernel
theorem dX9_pourer_1 : decode cX9_pourer 1 = .ok (.istore_n 2, 1) := by decide +kernel
theorem dX9_pourer_2 : decode cX9_pourer 2 = .ok (.iconst 0, 1) := by decide +kernel
theorem dX9_pourer_3 : decode cX9_pourer 3 = .ok (.istore_n 3, 1) := by decide +kernel
theorem dX9_pourer_4 : decode cX9_pourer 4 = .ok (.iload_n 3, 1) := by decide +kernel
theorem dX9_pourer_5 : decode cX9_pourer 5 = .ok (.aload_n 0, 1) := by decide +kernel
theorem dX9_pourer_6 : decode cX9_pourer 6 = .ok (.getfield 9, 3) := by decide +kernel
theorem dX9_pourer_9 : decode cX9_pourer 9 = .ok (.iconst 1, 1) := by decide +kernel
theorem dX9_pourer_10 : decode cX9_pourer 10 = .ok (.iaload, 1) := by decide +kernel
theorem dX9_pourer_11 : decode cX9_pourer 11 = .ok (.if_icmp .ge 80, 3) := by decide +kernel
theorem dX9_pourer_14 : decode cX9_pourer 14 = .ok (.aload_n 0, 1) := by decide +kernel
theorem dX9_pourer_15 : decode cX9_pourer 15 = .ok (.iload_n 3, 1) := by decide +kernel
theorem dX9_pourer_16 : decode cX9_pourer 16 = .ok (.iconst 1, 1) := by decide +kernel
theorem dX9_pourer_17 : decode cX9_pourer 17 = .ok (.invokevirtual 60, 3) := by decide +kernel
theorem dX9_pourer_20 : decode cX9_pourer 20 = .ok (.iconst 2, 1) := by decide +kernel
theorem dX9_pourer_21 : decode cX9_pourer 21 = .ok (.aload_n 0, 1) := by decide +kernel
theorem dX9_pourer_22 : decode cX9_pourer 22 = .ok (.iload_n 1, 1) := by decide +kernel
theorem dX9_pourer_23 : decode cX9_pourer 23 = .ok (.iconst 2, 1) := by decide +kernel
theorem dX9_pourer_24 : decode cX9_pourer 24 = .ok (.invokevirtual 48, 3) := by decide +kernel
theorem dX9_pourer_27 : decode cX9_pourer 27 = .ok (.imul, 1) := by decide +kernel
theorem dX9_pourer_28 : decode cX9_pourer 28 = .ok (.if_icmp .lt 24, 3) := by decide +kernel
theorem dX9_pourer_31 : decode cX9_pourer 31 = .ok (.aload_n 0, 1) := by decide +kernel
theorem dX9_pourer_32 : decode cX9_pourer 32 = .ok (.iload_n 3, 1) := by decide +kernel
theorem dX9_pourer_33 : decode cX9_pourer 33 = .ok (.iconst 2, 1) := by decide +kernel
theorem dX9_pourer_34 : decode cX9_pourer 34 = .ok (.invokevirtual 60, 3) := by decide +kernel
theorem dX9_pourer_37 : decode cX9_pourer 37 = .ok (.iconst 2, 1) := by decide +kernel
theorem dX9_pourer_38 : decode cX9_pourer 38 = .ok (.aload_n 0, 1) := by decide +kernel
theorem dX9_pourer_39 : decode cX9_pourer 39 = .ok (.iload_n 1, 1) := by decide +kernel
theorem dX9_pourer_40 : decode cX9_pourer 40 = .ok (.iconst 3, 1) := by decide +kernel
theorem dX9_pourer_41 : decode cX9_pourer 41 = .ok (.invokevirtual 48, 3) := by decide +kernel
theorem dX9_pourer_44 : decode cX9_pourer 44 = .ok (.imul, 1) := by decide +kernel
theorem dX9_pourer_45 : decode cX9_pourer 45 = .ok (.if_icmp .lt 7, 3) := by decide +kernel
theorem dX9_pourer_48 : decode cX9_pourer 48 = .ok (.iconst 1, 1) := by decide +kernel
theorem dX9_pourer_49 : decode cX9_pourer 49 = .ok (.goto 4, 3) := by decide +kernel
theorem dX9_pourer_52 : decode cX9_pourer 52 = .ok (.iconst 0, 1) := by decide +kernel
theorem dX9_pourer_53 : decode cX9_pourer 53 = .ok (.istore 4, 2) := by decide +kernel
theorem dX9_pourer_55 : decode cX9_pourer 55 = .ok (.iload 4, 2) := by decide +kernel
theorem dX9_pourer_57 : decode cX9_pourer 57 = .ok (.ifCond .eq 26, 3) := by decide +kernel
theorem dX9_pourer_60 : decode cX9_pourer 60 = .ok (.iload_n 2, 1) := by decide +kernel
theorem dX9_pourer_61 : decode cX9_pourer 61 = .ok (.ifCond .lt 18, 3) := by decide +kernel
theorem dX9_pourer_64 : decode cX9_pourer 64 = .ok (.aload_n 0, 1) := by decide +kernel
theorem dX9_pourer_65 : decode cX9_pourer 65 = .ok (.iload_n 3, 1) := by decide +kernel
theorem dX9_pourer_66 : decode cX9_pourer 66 = .ok (.iconst 2, 1) := by decide +kernel
theorem dX9_pourer_67 : decode cX9_pourer 67 = .ok (.invokevirtual 60, 3) := by decide +kernel
theorem dX9_pourer_70 : decode cX9_pourer 70 = .ok (.aload_n 0, 1) := by decide +kernel
theorem dX9_pourer_71 : decode cX9_pourer 71 = .ok (.iload_n 2, 1) := by decide +kernel
theorem dX9_pourer_72 : decode cX9_pourer 72 = .ok (.iconst 2, 1) := by decide +kernel
theorem dX9_pourer_73 : decode cX9_pourer 73 = .ok (.invokevirtual 60, 3) := by decide +kernel
theorem dX9_pourer_76 : decode cX9_pourer 76 = .ok (.if_icmp .le 7, 3) := by decide +kernel
theorem dX9_pourer_79 : decode cX9_pourer 79 = .ok (.iload_n 3, 1) := by decide +kernel
theorem dX9_pourer_80 : decode cX9_pourer 80 = .ok (.goto 4, 3) := by decide +kernel
theorem dX9_pourer_83 : decode cX9_pourer 83 = .ok (.iload_n 2, 1) := by decide +kernel
theorem dX9_pourer_84 : decode cX9_pourer 84 = .ok (.istore_n 2, 1) := by decide +kernel
theorem dX9_pourer_85 : decode cX9_pourer 85 = .ok (.iinc 3 1, 3) := by decide +kernel
theorem dX9_pourer_88 : decode cX9_pourer 88 = .ok (.goto (-84), 3) := by decide +kernel
theorem dX9_pourer_91 : decode cX9_pourer 91 = .ok (.iload_n 2, 1) := by decide +kernel
theorem dX9_pourer_92 : decode cX9_pourer 92 = .ok (.ireturn, 1) := by decide +kernel
theorem dX9_goes_0 : decode cX9_goes 0 = .ok (.aload_n 0, 1) := by decide +kernel
theorem dX9_goes_1 : decode cX9_goes 1 = .ok (.getfield 9, 3) := by decide +kernel
theorem dX9_goes_4 : decode cX9_goes 4 = .ok (.iconst 2, 1) := by decide +kernel
theorem dX9_goes_5 : decode cX9_goes 5 = .ok (.iaload, 1) := by decide +kernel
theorem dX9_goes_6 : decode cX9_goes 6 = .ok (.iconst 1, 1) := by decide +kernel
theorem dX9_goes_7 : decode cX9_goes 7 = .ok (.isub, 1) := by decide +kernel
theorem dX9_goes_8 : decode cX9_goes 8 = .ok (.istore_n 2, 1) := by decide +kernel
theorem dX9_goes_9 : decode cX9_goes 9 = .ok (.iconst 5, 1) := by decide +kernel
theorem dX9_goes_10 : decode cX9_goes 10 = .ok (.iload_n 1, 1) := by decide +kernel
theorem dX9_goes_11 : decode cX9_goes 11 = .ok (.imul, 1) := by decide +kernel
theorem dX9_goes_12 : decode cX9_goes 12 = .ok (.istore_n 3, 1) := by decide +kernel
theorem dX9_goes_13 : decode cX9_goes 13 = .ok (.iload_n 3, 1) := by decide +kernel
theorem dX9_goes_14 : decode cX9_goes 14 = .ok (.iconst 5, 1) := by decide +kernel
theorem dX9_goes_15 : decode cX9_goes 15 = .ok (.iload_n 2, 1) := by decide +kernel
theorem dX9_goes_16 : decode cX9_goes 16 = .ok (.imul, 1) := by decide +kernel
theorem dX9_goes_17 : decode cX9_goes 17 = .ok (.if_icmp .ge 29, 3) := by decide +kernel
theorem dX9_goes_20 : decode cX9_goes 20 = .ok (.aload_n 0, 1) := by decide +kernel
theorem dX9_goes_21 : decode cX9_goes 21 = .ok (.getfield 9, 3) := by decide +kernel
theorem dX9_goes_24 : decode cX9_goes 24 = .ok (.bipush 53, 2) := by decide +kernel
theorem dX9_goes_26 : decode cX9_goes 26 = .ok (.iload_n 3, 1) := by decide +kernel
theorem dX9_goes_27 : decode cX9_goes 27 = .ok (.iadd, 1) := by decide +kernel
theorem dX9_goes_28 : decode cX9_goes 28 = .ok (.aload_n 0, 1) := by decide +kernel
theorem dX9_goes_29 : decode cX9_goes 29 = .ok (.getfield 9, 3) := by decide +kernel
theorem dX9_goes_32 : decode cX9_goes 32 = .ok (.bipush 53, 2) := by decide +kernel
theorem dX9_goes_34 : decode cX9_goes 34 = .ok (.iload_n 3, 1) := by decide +kernel
theorem dX9_goes_35 : decode cX9_goes 35 = .ok (.iadd, 1) := by decide +kernel
theorem dX9_goes_36 : decode cX9_goes 36 = .ok (.iconst 5, 1) := by decide +kernel
theorem dX9_goes_37 : decode cX9_goes 37 = .ok (.iadd, 1) := by decide +kernel
theorem dX9_goes_38 : decode cX9_goes 38 = .ok (.iaload, 1) := by decide +kernel
theorem dX9_goes_39 : decode cX9_goes 39 = .ok (.iastore, 1) := by decide +kernel
theorem dX9_goes_40 : decode cX9_goes 40 = .ok (.iinc 3 1, 3) := by decide +kernel
theorem dX9_goes_43 : decode cX9_goes 43 = .ok (.goto (-30), 3) := by decide +kernel
theorem dX9_goes_46 : decode cX9_goes 46 = .ok (.iconst 0, 1) := by decide +kernel
theorem dX9_goes_47 : decode cX9_goes 47 = .ok (.istore_n 3, 1) := by decide +kernel
theorem dX9_goes_48 : decode cX9_goes 48 = .ok (.iload_n 3, 1) := by decide +kernel
theorem dX9_goes_49 : decode cX9_goes 49 = .ok (.iconst 5, 1) := by decide +kernel
theorem dX9_goes_50 : decode cX9_goes 50 = .ok (.if_icmp .ge 23, 3) := by decide +kernel
theorem dX9_goes_53 : decode cX9_goes 53 = .ok (.aload_n 0, 1) := by decide +kernel
theorem dX9_goes_54 : decode cX9_goes 54 = .ok (.getfield 9, 3) := by decide +kernel
theorem dX9_goes_57 : decode cX9_goes 57 = .ok (.bipush 53, 2) := by decide +kernel
theorem dX9_goes_59 : decode cX9_goes 59 = .ok (.iconst 5, 1) := by decide +kernel
theorem dX9_goes_60 : decode cX9_goes 60 = .ok (.iload_n 2, 1) := by decide +kernel
theorem dX9_goes_61 : decode cX9_goes 61 = .ok (.imul, 1) := by decide +kernel
theorem dX9_goes_62 : decode cX9_goes 62 = .ok (.iadd, 1) := by decide +kernel
theorem dX9_goes_63 : decode cX9_goes 63 = .ok (.iload_n 3, 1) := by decide +kernel
theorem dX9_goes_64 : decode cX9_goes 64 = .ok (.iadd, 1) := by decide +kernel
theorem dX9_goes_65 : decode cX9_goes 65 = .ok (.iconst 0, 1) := by decide +kernel
theorem dX9_goes_66 : decode cX9_goes 66 = .ok (.iastore, 1) := by decide +kernel
theorem dX9_goes_67 : decode cX9_goes 67 = .ok (.iinc 3 1, 3) := by decide +kernel
theorem dX9_goes_70 : decode cX9_goes 70 = .ok (.goto (-22), 3) := by decide +kernel
theorem dX9_goes_73 : decode cX9_goes 73 = .ok (.aload_n 0, 1) := by decide +kernel
theorem dX9_goes_74 : decode cX9_goes 74 = .ok (.getfield 9, 3) := by decide +kernel
theorem dX9_goes_77 : decode cX9_goes 77 = .ok (.iconst 2, 1) := by decide +kernel
theorem dX9_goes_78 : decode cX9_goes 78 = .ok (.iload_n 2, 1) := by decide +kernel
theorem dX9_goes_79 : decode cX9_goes 79 = .ok (.iastore, 1) := by decide +kernel
theorem dX9_goes_80 : decode cX9_goes 80 = .ok (.return_, 1) := by decide +kernel
theorem dX9_heats_0 : decode cX9_heats 0 = .ok (.aload_n 0, 1) := by decide +kernel
theorem dX9_heats_1 : decode cX9_heats 1 = .ok (.iload_n 1, 1) := by decide +kernel
theorem dX9_heats_2 : decode cX9_heats 2 = .ok (.iconst 3, 1) := by decide +kernel
theorem dX9_heats_3 : decode cX9_heats 3 = .ok (.invokevirtual 60, 3) := by decide +kernel
theorem dX9_heats_6 : decode cX9_heats 6 = .ok (.istore_n 2, 1) := by decide +kernel
theorem dX9_heats_7 : decode cX9_heats 7 = .ok (.aload_n 0, 1) := by decide +kernel
theorem dX9_heats_8 : decode cX9_heats 8 = .ok (.iload_n 1, 1) := by decide +kernel
theorem dX9_heats_9 : decode cX9_heats 9 = .ok (.iconst 1, 1) := by decide +kernel
theorem dX9_heats_10 : decode cX9_heats 10 = .ok (.invokevirtual 60, 3) := by decide +kernel
theorem dX9_heats_13 : decode cX9_heats 13 = .ok (.ifCond .ne 8, 3) := by decide +kernel
theorem dX9_heats_16 : decode cX9_heats 16 = .ok (.bipush 40, 2) := by decide +kernel
theorem dX9_heats_18 : decode cX9_heats 18 = .ok (.goto 15, 3) := by decide +kernel
theorem dX9_heats_21 : decode cX9_heats 21 = .ok (.aload_n 0, 1) := by decide +kernel
theorem dX9_heats_22 : decode cX9_heats 22 = .ok (.iload_n 1, 1) := by decide +kernel
theorem dX9_heats_23 : decode cX9_heats 23 = .ok (.iconst 2, 1) := by decide +kernel
theorem dX9_heats_24 : decode cX9_heats 24 = .ok (.invokevirtual 60, 3) := by decide +kernel
theorem dX9_heats_27 : decode cX9_heats 27 = .ok (.iconst 3, 1) := by decide +kernel
theorem dX9_heats_28 : decode cX9_heats 28 = .ok (.iload_n 2, 1) := by decide +kernel
theorem dX9_heats_29 : decode cX9_heats 29 = .ok (.imul, 1) := by decide +kernel
theorem dX9_heats_30 : decode cX9_heats 30 = .ok (.iadd, 1) := by decide +kernel
theorem dX9_heats_31 : decode cX9_heats 31 = .ok (.iconst 1, 1) := by decide +kernel
theorem dX9_heats_32 : decode cX9_heats 32 = .ok (.isub, 1) := by decide +kernel
theorem dX9_heats_33 : decode cX9_heats 33 = .ok (.istore_n 3, 1) := by decide +kernel
theorem dX9_heats_34 : decode cX9_heats 34 = .ok (.iload_n 3, 1) := by decide +kernel
theorem dX9_heats_35 : decode cX9_heats 35 = .ok (.bipush 40, 2) := by decide +kernel
theorem dX9_heats_37 : decode cX9_heats 37 = .ok (.if_icmp .ge 8, 3) := by decide +kernel
theorem dX9_heats_40 : decode cX9_heats 40 = .ok (.bipush 40, 2) := by decide +kernel
theorem dX9_heats_42 : decode cX9_heats 42 = .ok (.goto 17, 3) := by decide +kernel
theorem dX9_heats_45 : decode cX9_heats 45 = .ok (.iload_n 3, 1) := by decide +kernel
theorem dX9_heats_46 : decode cX9_heats 46 = .ok (.sipush 200, 3) := by decide +kernel
theorem dX9_heats_49 : decode cX9_heats 49 = .ok (.if_icmp .le 9, 3) := by decide +kernel
theorem dX9_heats_52 : decode cX9_heats 52 = .ok (.sipush 200, 3) := by decide +kernel
theorem dX9_heats_55 : decode cX9_heats 55 = .ok (.goto 4, 3) := by decide +kernel
theorem dX9_heats_58 : decode cX9_heats 58 = .ok (.iload_n 3, 1) := by decide +kernel
theorem dX9_heats_59 : decode cX9_heats 59 = .ok (.istore_n 3, 1) := by decide +kernel
theorem dX9_heats_60 : decode cX9_heats 60 = .ok (.aload_n 0, 1) := by decide +kernel
theorem dX9_heats_61 : decode cX9_heats 61 = .ok (.iload_n 1, 1) := by decide +kernel
theorem dX9_heats_62 : decode cX9_heats 62 = .ok (.iconst 2, 1) := by decide +kernel
theorem dX9_heats_63 : decode cX9_heats 63 = .ok (.iload_n 3, 1) := by decide +kernel
theorem dX9_heats_64 : decode cX9_heats 64 = .ok (.invokevirtual 63, 3) := by decide +kernel
theorem dX9_heats_67 : decode cX9_heats 67 = .ok (.aload_n 0, 1) := by decide +kernel
theorem dX9_heats_68 : decode cX9_heats 68 = .ok (.iload_n 1, 1) := by decide +kernel
theorem dX9_heats_69 : decode cX9_heats 69 = .ok (.iconst 1, 1) := by decide +kernel
theorem dX9_heats_70 : decode cX9_heats 70 = .ok (.invokevirtual 60, 3) := by decide +kernel
theorem dX9_heats_73 : decode cX9_heats 73 = .ok (.ifCond .le 18, 3) := by decide +kernel
theorem dX9_heats_76 : decode cX9_heats 76 = .ok (.iload_n 3, 1) := by decide +kernel
theorem dX9_heats_77 : decode cX9_heats 77 = .ok (.sipush 200, 3) := by decide +kernel
theorem dX9_heats_80 : decode cX9_heats 80 = .ok (.if_icmp .ne 11, 3) := by decide +kernel
theorem dX9_heats_83 : decode cX9_heats 83 = .ok (.iload_n 2, 1) := by decide +kernel
theorem dX9_heats_84 : decode cX9_heats 84 = .ok (.ifCond .le 7, 3) := by decide +kernel
theorem dX9_heats_87 : decode cX9_heats 87 = .ok (.iconst 1, 1) := by decide +kernel
theorem dX9_heats_88 : decode cX9_heats 88 = .ok (.goto 4, 3) := by decide +kernel
theorem dX9_heats_91 : decode cX9_heats 91 = .ok (.iconst 0, 1) := by decide +kernel
theorem dX9_heats_92 : decode cX9_heats 92 = .ok (.istore 4, 2) := by decide +kernel
theorem dX9_heats_94 : decode cX9_heats 94 = .ok (.iload 4, 2) := by decide +kernel
theorem dX9_heats_96 : decode cX9_heats 96 = .ok (.ifCond .eq 16, 3) := by decide +kernel
theorem dX9_heats_99 : decode cX9_heats 99 = .ok (.aload_n 0, 1) := by decide +kernel
theorem dX9_heats_100 : decode cX9_heats 100 = .ok (.iload_n 1, 1) := by decide +kernel
theorem dX9_heats_101 : decode cX9_heats 101 = .ok (.iconst 4, 1) := by decide +kernel
theorem dX9_heats_102 : decode cX9_heats 102 = .ok (.invokevirtual 60, 3) := by decide +kernel
theorem dX9_heats_105 : decode cX9_heats 105 = .ok (.ifCond .ne 7, 3) := by decide +kernel
theorem dX9_heats_108 : decode cX9_heats 108 = .ok (.iconst 1, 1) := by decide +kernel
theorem dX9_heats_109 : decode cX9_heats 109 = .ok (.goto 4, 3) := by decide +kernel
theorem dX9_heats_112 : decode cX9_heats 112 = .ok (.iconst 0, 1) := by decide +kernel
theorem dX9_heats_113 : decode cX9_heats 113 = .ok (.istore 5, 2) := by decide +kernel
theorem dX9_heats_115 : decode cX9_heats 115 = .ok (.aload_n 0, 1) := by decide +kernel
theorem dX9_heats_116 : decode cX9_heats 116 = .ok (.iload_n 1, 1) := by decide +kernel
theorem dX9_heats_117 : decode cX9_heats 117 = .ok (.iconst 4, 1) := by decide +kernel
theorem dX9_heats_118 : decode cX9_heats 118 = .ok (.iload 4, 2) := by decide +kernel
theorem dX9_heats_120 : decode cX9_heats 120 = .ok (.ifCond .eq 7, 3) := by decide +kernel
theorem dX9_heats_123 : decode cX9_heats 123 = .ok (.iconst 1, 1) := by decide +kernel
theorem dX9_heats_124 : decode cX9_heats 124 = .ok (.goto 4, 3) := by decide +kernel
theorem dX9_heats_127 : decode cX9_heats 127 = .ok (.iconst 0, 1) := by decide +kernel
theorem dX9_heats_128 : decode cX9_heats 128 = .ok (.invokevirtual 63, 3) := by decide +kernel
theorem dX9_heats_131 : decode cX9_heats 131 = .ok (.iload 4, 2) := by decide +kernel
theorem dX9_heats_133 : decode cX9_heats 133 = .ok (.ifCond .eq 63, 3) := by decide +kernel
theorem dX9_heats_136 : decode cX9_heats 136 = .ok (.iload_n 2, 1) := by decide +kernel
theorem dX9_heats_137 : decode cX9_heats 137 = .ok (.aload_n 0, 1) := by decide +kernel
theorem dX9_heats_138 : decode cX9_heats 138 = .ok (.iload_n 1, 1) := by decide +kernel
theorem dX9_heats_139 : decode cX9_heats 139 = .ok (.iconst 1, 1) := by decide +kernel
theorem dX9_heats_140 : decode cX9_heats 140 = .ok (.invokevirtual 60, 3) := by decide +kernel
theorem dX9_heats_143 : decode cX9_heats 143 = .ok (.if_icmp .ge 7, 3) := by decide +kernel
theorem dX9_heats_146 : decode cX9_heats 146 = .ok (.iload_n 2, 1) := by decide +kernel
theorem dX9_heats_147 : decode cX9_heats 147 = .ok (.goto 9, 3) := by decide +kernel
theorem dX9_heats_150 : decode cX9_heats 150 = .ok (.aload_n 0, 1) := by decide +kernel
theorem dX9_heats_151 : decode cX9_heats 151 = .ok (.iload_n 1, 1) := by decide +kernel
theorem dX9_heats_152 : decode cX9_heats 152 = .ok (.iconst 1, 1) := by decide +kernel
theorem dX9_heats_153 : decode cX9_heats 153 = .ok (.invokevirtual 60, 3) := by decide +kernel
theorem dX9_heats_156 : decode cX9_heats 156 = .ok (.istore 6, 2) := by decide +kernel
theorem dX9_heats_158 : decode cX9_heats 158 = .ok (.aload_n 0, 1) := by decide +kernel
theorem dX9_heats_159 : decode cX9_heats 159 = .ok (.iload_n 1, 1) := by decide +kernel
theorem dX9_heats_160 : decode cX9_heats 160 = .ok (.iconst 1, 1) := by decide +kernel
theorem dX9_heats_161 : decode cX9_heats 161 = .ok (.aload_n 0, 1) := by decide +kernel
theorem dX9_heats_162 : decode cX9_heats 162 = .ok (.iload_n 1, 1) := by decide +kernel
theorem dX9_heats_163 : decode cX9_heats 163 = .ok (.iconst 1, 1) := by decide +kernel
theorem dX9_heats_164 : decode cX9_heats 164 = .ok (.invokevirtual 60, 3) := by decide +kernel
theorem dX9_heats_167 : decode cX9_heats 167 = .ok (.iload 6, 2) := by decide +kernel
theorem dX9_heats_169 : decode cX9_heats 169 = .ok (.isub, 1) := by decide +kernel
theorem dX9_heats_170 : decode cX9_heats 170 = .ok (.invokevirtual 63, 3) := by decide +kernel
theorem dX9_heats_173 : decode cX9_heats 173 = .ok (.aload_n 0, 1) := by decide +kernel
theorem dX9_heats_174 : decode cX9_heats 174 = .ok (.getfield 9, 3) := by decide +kernel
theorem dX9_heats_177 : decode cX9_heats 177 = .ok (.iconst 5, 1) := by decide +kernel
theorem dX9_heats_178 : decode cX9_heats 178 = .ok (.dup2, 1) := by decide +kernel
theorem dX9_heats_179 : decode cX9_heats 179 = .ok (.iaload, 1) := by decide +kernel
theorem dX9_heats_180 : decode cX9_heats 180 = .ok (.iload 6, 2) := by decide +kernel
theorem dX9_heats_182 : decode cX9_heats 182 = .ok (.iadd, 1) := by decide +kernel
theorem dX9_heats_183 : decode cX9_heats 183 = .ok (.iastore, 1) := by decide +kernel
theorem dX9_heats_184 : decode cX9_heats 184 = .ok (.aload_n 0, 1) := by decide +kernel
theorem dX9_heats_185 : decode cX9_heats 185 = .ok (.getfield 9, 3) := by decide +kernel
theorem dX9_heats_188 : decode cX9_heats 188 = .ok (.bipush 6, 2) := by decide +kernel
theorem dX9_heats_190 : decode cX9_heats 190 = .ok (.dup2, 1) := by decide +kernel
theorem dX9_heats_191 : decode cX9_heats 191 = .ok (.iaload, 1) := by decide +kernel
theorem dX9_heats_192 : decode cX9_heats 192 = .ok (.iload 6, 2) := by decide +kernel
theorem dX9_heats_194 : decode cX9_heats 194 = .ok (.iadd, 1) := by decide +kernel
theorem dX9_heats_195 : decode cX9_heats 195 = .ok (.iastore, 1) := by decide +kernel
theorem dX9_heats_196 : decode cX9_heats 196 = .ok (.iload 5, 2) := by decide +kernel
theorem dX9_heats_198 : decode cX9_heats 198 = .ok (.ifCond .eq 30, 3) := by decide +kernel
theorem dX9_heats_201 : decode cX9_heats 201 = .ok (.aload_n 0, 1) := by decide +kernel
theorem dX9_heats_202 : decode cX9_heats 202 = .ok (.getfield 9, 3) := by decide +kernel
theorem dX9_heats_205 : decode cX9_heats 205 = .ok (.aload_n 0, 1) := by decide +kernel
theorem dX9_heats_206 : decode cX9_heats 206 = .ok (.getfield 9, 3) := by decide +kernel
theorem dX9_heats_209 : decode cX9_heats 209 = .ok (.bipush 11, 2) := by decide +kernel
theorem dX9_heats_211 : decode cX9_heats 211 = .ok (.iaload, 1) := by decide +kernel
theorem dX9_heats_212 : decode cX9_heats 212 = .ok (.iconst 1, 1) := by decide +kernel
theorem dX9_heats_213 : decode cX9_heats 213 = .ok (.if_icmp .ne 8, 3) := by decide +kernel
theorem dX9_heats_216 : decode cX9_heats 216 = .ok (.bipush 15, 2) := by decide +kernel
theorem dX9_heats_218 : decode cX9_heats 218 = .ok (.goto 5, 3) := by decide +kernel
theorem dX9_heats_221 : decode cX9_heats 221 = .ok (.bipush 16, 2) := by decide +kernel
theorem dX9_heats_223 : decode cX9_heats 223 = .ok (.dup2, 1) := by decide +kernel
theorem dX9_heats_224 : decode cX9_heats 224 = .ok (.iaload, 1) := by decide +kernel
theorem dX9_heats_225 : decode cX9_heats 225 = .ok (.iconst 1, 1) := by decide +kernel
theorem dX9_heats_226 : decode cX9_heats 226 = .ok (.iadd, 1) := by decide +kernel
theorem dX9_heats_227 : decode cX9_heats 227 = .ok (.iastore, 1) := by decide +kernel
theorem dX9_heats_228 : decode cX9_heats 228 = .ok (.iload 5, 2) := by decide +kernel
theorem dX9_heats_230 : decode cX9_heats 230 = .ok (.ifCond .eq 7, 3) := by decide +kernel
theorem dX9_heats_233 : decode cX9_heats 233 = .ok (.iconst 1, 1) := by decide +kernel
theorem dX9_heats_234 : decode cX9_heats 234 = .ok (.goto 4, 3) := by decide +kernel
theorem dX9_heats_237 : decode cX9_heats 237 = .ok (.iconst 0, 1) := by decide +kernel
theorem dX9_heats_238 : decode cX9_heats 238 = .ok (.ireturn, 1) := by decide +kernel
theorem dX9_adds_0 : decode cX9_adds 0 = .ok (.iload_n 1, 1) := by decide +kernel
theorem dX9_adds_1 : decode cX9_adds 1 = .ok (.iconst 2, 1) := by decide +kernel
theorem dX9_adds_2 : decode cX9_adds 2 = .ok (.bipush 16, 2) := by decide +kernel
theorem dX9_adds_4 : decode cX9_adds 4 = .ok (.invokestatic 44, 3) := by decide +kernel
theorem dX9_adds_7 : decode cX9_adds 7 = .ok (.ifCond .ne 5, 3) := by decide +kernel
theorem dX9_adds_10 : decode cX9_adds 10 = .ok (.iconst 2, 1) := by decide +kernel
theorem dX9_adds_11 : decode cX9_adds 11 = .ok (.ireturn, 1) := by decide +kernel
theorem dX9_adds_12 : decode cX9_adds 12 = .ok (.aload_n 0, 1) := by decide +kernel
theorem dX9_adds_13 : decode cX9_adds 13 = .ok (.getfield 9, 3) := by decide +kernel
theorem dX9_adds_16 : decode cX9_adds 16 = .ok (.iconst 1, 1) := by decide +kernel
theorem dX9_adds_17 : decode cX9_adds 17 = .ok (.iaload, 1) := by decide +kernel
theorem dX9_adds_18 : decode cX9_adds 18 = .ok (.iconst 4, 1) := by decide +kernel
theorem dX9_adds_19 : decode cX9_adds 19 = .ok (.if_icmp .ne 5, 3) := by decide +kernel
theorem dX9_adds_22 : decode cX9_adds 22 = .ok (.iconst 3, 1) := by decide +kernel
theorem dX9_adds_23 : decode cX9_adds 23 = .ok (.ireturn, 1) := by decide +kernel
theorem dX9_adds_24 : decode cX9_adds 24 = .ok (.aload_n 0, 1) := by decide +kernel
theorem dX9_adds_25 : decode cX9_adds 25 = .ok (.aload_n 0, 1) := by decide +kernel
theorem dX9_adds_26 : decode cX9_adds 26 = .ok (.getfield 9, 3) := by decide +kernel
theorem dX9_adds_29 : decode cX9_adds 29 = .ok (.iconst 1, 1) := by decide +kernel
theorem dX9_adds_30 : decode cX9_adds 30 = .ok (.iaload, 1) := by decide +kernel
theorem dX9_adds_31 : decode cX9_adds 31 = .ok (.putfield 40, 3) := by decide +kernel
theorem dX9_adds_34 : decode cX9_adds 34 = .ok (.aload_n 0, 1) := by decide +kernel
theorem dX9_adds_35 : decode cX9_adds 35 = .ok (.getfield 9, 3) := by decide +kernel
theorem dX9_adds_38 : decode cX9_adds 38 = .ok (.iconst 1, 1) := by decide +kernel
theorem dX9_adds_39 : decode cX9_adds 39 = .ok (.dup2, 1) := by decide +kernel
theorem dX9_adds_40 : decode cX9_adds 40 = .ok (.iaload, 1) := by decide +kernel
theorem dX9_adds_41 : decode cX9_adds 41 = .ok (.iconst 1, 1) := by decide +kernel
theorem dX9_adds_42 : decode cX9_adds 42 = .ok (.iadd, 1) := by decide +kernel
theorem dX9_adds_43 : decode cX9_adds 43 = .ok (.iastore, 1) := by decide +kernel
theorem dX9_adds_44 : decode cX9_adds 44 = .ok (.iconst 0, 1) := by decide +kernel
theorem dX9_adds_45 : decode cX9_adds 45 = .ok (.istore_n 2, 1) := by decide +kernel
theorem dX9_adds_46 : decode cX9_adds 46 = .ok (.iload_n 2, 1) := by decide +kernel
theorem dX9_adds_47 : decode cX9_adds 47 = .ok (.iconst 5, 1) := by decide +kernel
theorem dX9_adds_48 : decode cX9_adds 48 = .ok (.if_icmp .ge 19, 3) := by decide +kernel
theorem dX9_adds_51 : decode cX9_adds 51 = .ok (.aload_n 0, 1) := by decide +kernel
theorem dX9_adds_52 : decode cX9_adds 52 = .ok (.aload_n 0, 1) := by decide +kernel
theorem dX9_adds_53 : decode cX9_adds 53 = .ok (.getfield 40, 3) := by decide +kernel
theorem dX9_adds_56 : decode cX9_adds 56 = .ok (.iload_n 2, 1) := by decide +kernel
theorem dX9_adds_57 : decode cX9_adds 57 = .ok (.iconst 0, 1) := by decide +kernel
theorem dX9_adds_58 : decode cX9_adds 58 = .ok (.invokevirtual 63, 3) := by decide +kernel
theorem dX9_adds_61 : decode cX9_adds 61 = .ok (.iinc 2 1, 3) := by decide +kernel
theorem dX9_adds_64 : decode cX9_adds 64 = .ok (.goto (-18), 3) := by decide +kernel
theorem dX9_adds_67 : decode cX9_adds 67 = .ok (.aload_n 0, 1) := by decide +kernel
theorem dX9_adds_68 : decode cX9_adds 68 = .ok (.aload_n 0, 1) := by decide +kernel
theorem dX9_adds_69 : decode cX9_adds 69 = .ok (.getfield 40, 3) := by decide +kernel
theorem dX9_adds_72 : decode cX9_adds 72 = .ok (.iconst 0, 1) := by decide +kernel
theorem dX9_adds_73 : decode cX9_adds 73 = .ok (.iconst 2, 1) := by decide +kernel
theorem dX9_adds_74 : decode cX9_adds 74 = .ok (.iload_n 1, 1) := by decide +kernel
theorem dX9_adds_75 : decode cX9_adds 75 = .ok (.imul, 1) := by decide +kernel
theorem dX9_adds_76 : decode cX9_adds 76 = .ok (.invokevirtual 63, 3) := by decide +kernel
theorem dX9_adds_79 : decode cX9_adds 79 = .ok (.aload_n 0, 1) := by decide +kernel
theorem dX9_adds_80 : decode cX9_adds 80 = .ok (.aload_n 0, 1) := by decide +kernel
theorem dX9_adds_81 : decode cX9_adds 81 = .ok (.getfield 40, 3) := by decide +kernel
theorem dX9_adds_84 : decode cX9_adds 84 = .ok (.iconst 2, 1) := by decide +kernel
theorem dX9_adds_85 : decode cX9_adds 85 = .ok (.bipush 40, 2) := by decide +kernel
theorem dX9_adds_87 : decode cX9_adds 87 = .ok (.invokevirtual 63, 3) := by decide +kernel
theorem dX9_adds_90 : decode cX9_adds 90 = .ok (.iconst 0, 1) := by decide +kernel
theorem dX9_adds_91 : decode cX9_adds 91 = .ok (.ireturn, 1) := by decide +kernel
theorem dX9_addKettle_0 : decode cX9_addKettle 0 = .ok (.aload_n 0, 1) := by decide +kernel
theorem dX9_addKettle_1 : decode cX9_addKettle 1 = .ok (.invokevirtual 67, 3) := by decide +kernel
theorem dX9_addKettle_4 : decode cX9_addKettle 4 = .ok (.aload_n 0, 1) := by decide +kernel
theorem dX9_addKettle_5 : decode cX9_addKettle 5 = .ok (.aload_n 0, 1) := by decide +kernel
theorem dX9_addKettle_6 : decode cX9_addKettle 6 = .ok (.iload_n 1, 1) := by decide +kernel
theorem dX9_addKettle_7 : decode cX9_addKettle 7 = .ok (.invokevirtual 70, 3) := by decide +kernel
theorem dX9_addKettle_10 : decode cX9_addKettle 10 = .ok (.iconst 0, 1) := by decide +kernel
theorem dX9_addKettle_11 : decode cX9_addKettle 11 = .ok (.iconst 1, 1) := by decide +kernel
theorem dX9_addKettle_12 : decode cX9_addKettle 12 = .ok (.iconst 2, 1) := by decide +kernel
theorem dX9_addKettle_13 : decode cX9_addKettle 13 = .ok (.iconst 0, 1) := by decide +kernel
theorem dX9_addKettle_14 : decode cX9_addKettle 14 = .ok (.invokevirtual 73, 3) := by decide +kernel
theorem dX9_addKettle_17 : decode cX9_addKettle 17 = .ok (.ireturn, 1) := by decide +kernel
theorem dX9_fills_0 : decode cX9_fills 0 = .ok (.aload_n 0, 1) := by decide +kernel
theorem dX9_fills_1 : decode cX9_fills 1 = .ok (.iload_n 1, 1) := by decide +kernel
theorem dX9_fills_2 : decode cX9_fills 2 = .ok (.invokevirtual 77, 3) := by decide +kernel
theorem dX9_fills_5 : decode cX9_fills 5 = .ok (.ifCond .ne 5, 3) := by decide +kernel
theorem dX9_fills_8 : decode cX9_fills 8 = .ok (.iconst 1, 1) := by decide +kernel
theorem dX9_fills_9 : decode cX9_fills 9 = .ok (.ireturn, 1) := by decide +kernel
theorem dX9_fills_10 : decode cX9_fills 10 = .ok (.iload_n 2, 1) := by decide +kernel
theorem dX9_fills_11 : decode cX9_fills 11 = .ok (.iconst 1, 1) := by decide +kernel
theorem dX9_fills_12 : decode cX9_fills 12 = .ok (.bipush 16, 2) := by decide +kernel
theorem dX9_fills_14 : decode cX9_fills 14 = .ok (.invokestatic 44, 3) := by decide +kernel
theorem dX9_fills_17 : decode cX9_fills 17 = .ok (.ifCond .ne 5, 3) := by decide +kernel
theorem dX9_fills_20 : decode cX9_fills 20 = .ok (.iconst 2, 1) := by decide +kernel
theorem dX9_fills_21 : decode cX9_fills 21 = .ok (.ireturn, 1) := by decide +kernel
theorem dX9_fills_22 : decode cX9_fills 22 = .ok (.aload_n 0, 1) := by decide +kernel
theorem dX9_fills_23 : decode cX9_fills 23 = .ok (.iload_n 1, 1) := by decide +kernel
theorem dX9_fills_24 : decode cX9_fills 24 = .ok (.iconst 1, 1) := by decide +kernel
theorem dX9_fills_25 : decode cX9_fills 25 = .ok (.invokevirtual 60, 3) := by decide +kernel
theorem dX9_fills_28 : decode cX9_fills 28 = .ok (.istore_n 3, 1) := by decide +kernel
theorem dX9_fills_29 : decode cX9_fills 29 = .ok (.iconst 2, 1) := by decide +kernel
theorem dX9_fills_30 : decode cX9_fills 30 = .ok (.iload_n 2, 1) := by decide +kernel
theorem dX9_fills_31 : decode cX9_fills 31 = .ok (.imul, 1) := by decide +kernel
theorem dX9_fills_32 : decode cX9_fills 32 = .ok (.istore 4, 2) := by decide +kernel
theorem dX9_fills_34 : decode cX9_fills 34 = .ok (.iload_n 3, 1) := by decide +kernel
theorem dX9_fills_35 : decode cX9_fills 35 = .ok (.iload 4, 2) := by decide +kernel
theorem dX9_fills_37 : decode cX9_fills 37 = .ok (.iadd, 1) := by decide +kernel
theorem dX9_fills_38 : decode cX9_fills 38 = .ok (.aload_n 0, 1) := by decide +kernel
theorem dX9_fills_39 : decode cX9_fills 39 = .ok (.iload_n 1, 1) := by decide +kernel
theorem dX9_fills_40 : decode cX9_fills 40 = .ok (.iconst 0, 1) := by decide +kernel
theorem dX9_fills_41 : decode cX9_fills 41 = .ok (.invokevirtual 60, 3) := by decide +kernel
theorem dX9_fills_44 : decode cX9_fills 44 = .ok (.if_icmp .le 5, 3) := by decide +kernel
theorem dX9_fills_47 : decode cX9_fills 47 = .ok (.iconst 3, 1) := by decide +kernel
theorem dX9_fills_48 : decode cX9_fills 48 = .ok (.ireturn, 1) := by decide +kernel
theorem dX9_fills_49 : decode cX9_fills 49 = .ok (.aload_n 0, 1) := by decide +kernel
theorem dX9_fills_50 : decode cX9_fills 50 = .ok (.bipush 40, 2) := by decide +kernel
theorem dX9_fills_52 : decode cX9_fills 52 = .ok (.aload_n 0, 1) := by decide +kernel
theorem dX9_fills_53 : decode cX9_fills 53 = .ok (.iload_n 1, 1) := by decide +kernel
theorem dX9_fills_54 : decode cX9_fills 54 = .ok (.iconst 2, 1) := by decide +kernel
theorem dX9_fills_55 : decode cX9_fills 55 = .ok (.invokevirtual 60, 3) := by decide +kernel
theorem dX9_fills_58 : decode cX9_fills 58 = .ok (.bipush 40, 2) := by decide +kernel
theorem dX9_fills_60 : decode cX9_fills 60 = .ok (.isub, 1) := by decide +kernel
theorem dX9_fills_61 : decode cX9_fills 61 = .ok (.iload_n 3, 1) := by decide +kernel
theorem dX9_fills_62 : decode cX9_fills 62 = .ok (.imul, 1) := by decide +kernel
theorem dX9_fills_63 : decode cX9_fills 63 = .ok (.iload_n 3, 1) := by decide +kernel
theorem dX9_fills_64 : decode cX9_fills 64 = .ok (.iload 4, 2) := by decide +kernel
theorem dX9_fills_66 : decode cX9_fills 66 = .ok (.iadd, 1) := by decide +kernel
theorem dX9_fills_67 : decode cX9_fills 67 = .ok (.idiv, 1) := by decide +kernel
theorem dX9_fills_68 : decode cX9_fills 68 = .ok (.iadd, 1) := by decide +kernel
theorem dX9_fills_69 : decode cX9_fills 69 = .ok (.putfield 40, 3) := by decide +kernel
theorem dX9_fills_72 : decode cX9_fills 72 = .ok (.aload_n 0, 1) := by decide +kernel
theorem dX9_fills_73 : decode cX9_fills 73 = .ok (.iload_n 1, 1) := by decide +kernel
theorem dX9_fills_74 : decode cX9_fills 74 = .ok (.iconst 2, 1) := by decide +kernel
theorem dX9_fills_75 : decode cX9_fills 75 = .ok (.aload_n 0, 1) := by decide +kernel
theorem dX9_fills_76 : decode cX9_fills 76 = .ok (.getfield 40, 3) := by decide +kernel
theorem dX9_fills_79 : decode cX9_fills 79 = .ok (.invokevirtual 63, 3) := by decide +kernel
theorem dX9_fills_82 : decode cX9_fills 82 = .ok (.aload_n 0, 1) := by decide +kernel
theorem dX9_fills_83 : decode cX9_fills 83 = .ok (.iload_n 1, 1) := by decide +kernel
theorem dX9_fills_84 : decode cX9_fills 84 = .ok (.iconst 1, 1) := by decide +kernel
theorem dX9_fills_85 : decode cX9_fills 85 = .ok (.iload_n 3, 1) := by decide +kernel
theorem dX9_fills_86 : decode cX9_fills 86 = .ok (.iload 4, 2) := by decide +kernel
theorem dX9_fills_88 : decode cX9_fills 88 = .ok (.iadd, 1) := by decide +kernel
theorem dX9_fills_89 : decode cX9_fills 89 = .ok (.invokevirtual 63, 3) := by decide +kernel
theorem dX9_fills_92 : decode cX9_fills 92 = .ok (.aload_n 0, 1) := by decide +kernel
theorem dX9_fills_93 : decode cX9_fills 93 = .ok (.getfield 9, 3) := by decide +kernel
theorem dX9_fills_96 : decode cX9_fills 96 = .ok (.bipush 8, 2) := by decide +kernel
theorem dX9_fills_98 : decode cX9_fills 98 = .ok (.dup2, 1) := by decide +kernel
theorem dX9_fills_99 : decode cX9_fills 99 = .ok (.iaload, 1) := by decide +kernel
theorem dX9_fills_100 : decode cX9_fills 100 = .ok (.iload 4, 2) := by decide +kernel
theorem dX9_fills_102 : decode cX9_fills 102 = .ok (.iadd, 1) := by decide +kernel
theorem dX9_fills_103 : decode cX9_fills 103 = .ok (.iastore, 1) := by decide +kernel
theorem dX9_fills_104 : decode cX9_fills 104 = .ok (.iconst 0, 1) := by decide +kernel
theorem dX9_fills_105 : decode cX9_fills 105 = .ok (.ireturn, 1) := by decide +kernel
theorem dX9_fill_0 : decode cX9_fill 0 = .ok (.aload_n 0, 1) := by decide +kernel
theorem dX9_fill_1 : decode cX9_fill 1 = .ok (.invokevirtual 67, 3) := by decide +kernel
theorem dX9_fill_4 : decode cX9_fill 4 = .ok (.aload_n 0, 1) := by decide +kernel
theorem dX9_fill_5 : decode cX9_fill 5 = .ok (.aload_n 0, 1) := by decide +kernel
theorem dX9_fill_6 : decode cX9_fill 6 = .ok (.iload_n 1, 1) := by decide +kernel
theorem dX9_fill_7 : decode cX9_fill 7 = .ok (.iload_n 2, 1) := by decide +kernel
theorem dX9_fill_8 : decode cX9_fill 8 = .ok (.invokevirtual 81, 3) := by decide +kernel
theorem dX9_fill_11 : decode cX9_fill 11 = .ok (.iconst 1, 1) := by decide +kernel
theorem dX9_fill_12 : decode cX9_fill 12 = .ok (.iconst 2, 1) := by decide +kernel
theorem dX9_fill_13 : decode cX9_fill 13 = .ok (.iconst 3, 1) := by decide +kernel
theorem dX9_fill_14 : decode cX9_fill 14 = .ok (.iconst 0, 1) := by decide +kernel
theorem dX9_fill_15 : decode cX9_fill 15 = .ok (.invokevirtual 73, 3) := by decide +kernel
theorem dX9_fill_18 : decode cX9_fill 18 = .ok (.invokestatic 84, 3) := by decide +kernel
theorem dX9_fill_21 : decode cX9_fill 21 = .ok (.freturn, 1) := by decide +kernel
theorem dX9_turns_0 : decode cX9_turns 0 = .ok (.aload_n 0, 1) := by decide +kernel
theorem dX9_turns_1 : decode cX9_turns 1 = .ok (.iload_n 1, 1) := by decide +kernel
theorem dX9_turns_2 : decode cX9_turns 2 = .ok (.invokevirtual 77, 3) := by decide +kernel
theorem dX9_turns_5 : decode cX9_turns 5 = .ok (.ifCond .ne 5, 3) := by decide +kernel
theorem dX9_turns_8 : decode cX9_turns 8 = .ok (.iconst 1, 1) := by decide +kernel
theorem dX9_turns_9 : decode cX9_turns 9 = .ok (.ireturn, 1) := by decide +kernel
theorem dX9_turns_10 : decode cX9_turns 10 = .ok (.iload_n 2, 1) := by decide +kernel
theorem dX9_turns_11 : decode cX9_turns 11 = .ok (.iconst 0, 1) := by decide +kernel
theorem dX9_turns_12 : decode cX9_turns 12 = .ok (.iconst 5, 1) := by decide +kernel
theorem dX9_turns_13 : decode cX9_turns 13 = .ok (.invokestatic 44, 3) := by decide +kernel
theorem dX9_turns_16 : decode cX9_turns 16 = .ok (.ifCond .ne 5, 3) := by decide +kernel
theorem dX9_turns_19 : decode cX9_turns 19 = .ok (.iconst 2, 1) := by decide +kernel
theorem dX9_turns_20 : decode cX9_turns 20 = .ok (.ireturn, 1) := by decide +kernel
theorem dX9_turns_21 : decode cX9_turns 21 = .ok (.aload_n 0, 1) := by decide +kernel
theorem dX9_turns_22 : decode cX9_turns 22 = .ok (.aload_n 0, 1) := by decide +kernel
theorem dX9_turns_23 : decode cX9_turns 23 = .ok (.iload_n 1, 1) := by decide +kernel
theorem dX9_turns_24 : decode cX9_turns 24 = .ok (.iconst 3, 1) := by decide +kernel
theorem dX9_turns_25 : decode cX9_turns 25 = .ok (.invokevirtual 60, 3) := by decide +kernel
theorem dX9_turns_28 : decode cX9_turns 28 = .ok (.putfield 40, 3) := by decide +kernel
theorem dX9_turns_31 : decode cX9_turns 31 = .ok (.aload_n 0, 1) := by decide +kernel
theorem dX9_turns_32 : decode cX9_turns 32 = .ok (.iload_n 1, 1) := by decide +kernel
theorem dX9_turns_33 : decode cX9_turns 33 = .ok (.iconst 3, 1) := by decide +kernel
theorem dX9_turns_34 : decode cX9_turns 34 = .ok (.iload_n 2, 1) := by decide +kernel
theorem dX9_turns_35 : decode cX9_turns 35 = .ok (.invokevirtual 63, 3) := by decide +kernel
theorem dX9_turns_38 : decode cX9_turns 38 = .ok (.iconst 0, 1) := by decide +kernel
theorem dX9_turns_39 : decode cX9_turns 39 = .ok (.ireturn, 1) := by decide +kernel
theorem dX9_setBurner_0 : decode cX9_setBurner 0 = .ok (.aload_n 0, 1) := by decide +kernel
theorem dX9_setBurner_1 : decode cX9_setBurner 1 = .ok (.invokevirtual 67, 3) := by decide +kernel
theorem dX9_setBurner_4 : decode cX9_setBurner 4 = .ok (.aload_n 0, 1) := by decide +kernel
theorem dX9_setBurner_5 : decode cX9_setBurner 5 = .ok (.aload_n 0, 1) := by decide +kernel
theorem dX9_setBurner_6 : decode cX9_setBurner 6 = .ok (.iload_n 1, 1) := by decide +kernel
theorem dX9_setBurner_7 : decode cX9_setBurner 7 = .ok (.iload_n 2, 1) := by decide +kernel
theorem dX9_setBurner_8 : decode cX9_setBurner 8 = .ok (.invokevirtual 88, 3) := by decide +kernel
theorem dX9_setBurner_11 : decode cX9_setBurner 11 = .ok (.iconst 1, 1) := by decide +kernel
theorem dX9_setBurner_12 : decode cX9_setBurner 12 = .ok (.iconst 2, 1) := by decide +kernel
theorem dX9_setBurner_13 : decode cX9_setBurner 13 = .ok (.iconst 0, 1) := by decide +kernel
theorem dX9_setBurner_14 : decode cX9_setBurner 14 = .ok (.iconst 0, 1) := by decide +kernel
theorem dX9_setBurner_15 : decode cX9_setBurner 15 = .ok (.invokevirtual 73, 3) := by decide +kernel
theorem dX9_setBurner_18 : decode cX9_setBurner 18 = .ok (.ireturn, 1) := by decide +kernel
theorem dX9_accepts_0 : decode cX9_accepts 0 = .ok (.iload_n 1, 1) := by decide +kernel
theorem dX9_accepts_1 : decode cX9_accepts 1 = .ok (.iconst 0, 1) := by decide +kernel
theorem dX9_accepts_2 : decode cX9_accepts 2 = .ok (.bipush 9, 2) := by decide +kernel
theorem dX9_accepts_4 : decode cX9_accepts 4 = .ok (.invokestatic 44, 3) := by decide +kernel
theorem dX9_accepts_7 : decode cX9_accepts 7 = .ok (.ifCond .eq 35, 3) := by decide +kernel
theorem dX9_accepts_10 : decode cX9_accepts 10 = .ok (.iload_n 2, 1) := by decide +kernel
theorem dX9_accepts_11 : decode cX9_accepts 11 = .ok (.iconst 1, 1) := by decide +kernel
theorem dX9_accepts_12 : decode cX9_accepts 12 = .ok (.bipush 6, 2) := by decide +kernel
theorem dX9_accepts_14 : decode cX9_accepts 14 = .ok (.invokestatic 44, 3) := by decide +kernel
theorem dX9_accepts_17 : decode cX9_accepts 17 = .ok (.ifCond .eq 25, 3) := by decide +kernel
theorem dX9_accepts_20 : decode cX9_accepts 20 = .ok (.iload_n 3, 1) := by decide +kernel
theorem dX9_accepts_21 : decode cX9_accepts 21 = .ok (.bipush 60, 2) := by decide +kernel
theorem dX9_accepts_23 : decode cX9_accepts 23 = .ok (.bipush 100, 2) := by decide +kernel
theorem dX9_accepts_25 : decode cX9_accepts 25 = .ok (.invokestatic 44, 3) := by decide +kernel
theorem dX9_accepts_28 : decode cX9_accepts 28 = .ok (.ifCond .eq 14, 3) := by decide +kernel
theorem dX9_accepts_31 : decode cX9_accepts 31 = .ok (.iload 4, 2) := by decide +kernel
theorem dX9_accepts_33 : decode cX9_accepts 33 = .ok (.iconst 1, 1) := by decide +kernel
theorem dX9_accepts_34 : decode cX9_accepts 34 = .ok (.bipush 9, 2) := by decide +kernel
theorem dX9_accepts_36 : decode cX9_accepts 36 = .ok (.invokestatic 44, 3) := by decide +kernel
theorem dX9_accepts_39 : decode cX9_accepts 39 = .ok (.ifCond .ne 5, 3) := by decide +kernel
theorem dX9_accepts_42 : decode cX9_accepts 42 = .ok (.iconst 2, 1) := by decide +kernel
theorem dX9_accepts_43 : decode cX9_accepts 43 = .ok (.ireturn, 1) := by decide +kernel
theorem dX9_accepts_44 : decode cX9_accepts 44 = .ok (.aload_n 0, 1) := by decide +kernel
theorem dX9_accepts_45 : decode cX9_accepts 45 = .ok (.getfield 9, 3) := by decide +kernel
theorem dX9_accepts_48 : decode cX9_accepts 48 = .ok (.iconst 2, 1) := by decide +kernel
theorem dX9_accepts_49 : decode cX9_accepts 49 = .ok (.iaload, 1) := by decide +kernel
theorem dX9_accepts_50 : decode cX9_accepts 50 = .ok (.bipush 10, 2) := by decide +kernel
theorem dX9_accepts_52 : decode cX9_accepts 52 = .ok (.if_icmp .ne 5, 3) := by decide +kernel
theorem dX9_accepts_55 : decode cX9_accepts 55 = .ok (.iconst 3, 1) := by decide +kernel
theorem dX9_accepts_56 : decode cX9_accepts 56 = .ok (.ireturn, 1) := by decide +kernel
theorem dX9_accepts_57 : decode cX9_accepts 57 = .ok (.bipush 53, 2) := by decide +kernel
theorem dX9_accepts_59 : decode cX9_accepts 59 = .ok (.iconst 5, 1) := by decide +kernel
theorem dX9_accepts_60 : decode cX9_accepts 60 = .ok (.aload_n 0, 1) := by decide +kernel
theorem dX9_accepts_61 : decode cX9_accepts 61 = .ok (.getfield 9, 3) := by decide +kernel
theorem dX9_accepts_64 : decode cX9_accepts 64 = .ok (.iconst 2, 1) := by decide +kernel
theorem dX9_accepts_65 : decode cX9_accepts 65 = .ok (.iaload, 1) := by decide +kernel
theorem dX9_accepts_66 : decode cX9_accepts 66 = .ok (.imul, 1) := by decide +kernel
theorem dX9_accepts_67 : decode cX9_accepts 67 = .ok (.iadd, 1) := by decide +kernel
theorem dX9_accepts_68 : decode cX9_accepts 68 = .ok (.istore 5, 2) := by decide +kernel
theorem dX9_accepts_70 : decode cX9_accepts 70 = .ok (.aload_n 0, 1) := by decide +kernel
theorem dX9_accepts_71 : decode cX9_accepts 71 = .ok (.aload_n 0, 1) := by decide +kernel
theorem dX9_accepts_72 : decode cX9_accepts 72 = .ok (.getfield 9, 3) := by decide +kernel
theorem dX9_accepts_75 : decode cX9_accepts 75 = .ok (.iconst 3, 1) := by decide +kernel
theorem dX9_accepts_76 : decode cX9_accepts 76 = .ok (.iaload, 1) := by decide +kernel
theorem dX9_accepts_77 : decode cX9_accepts 77 = .ok (.putfield 40, 3) := by decide +kernel
theorem dX9_accepts_80 : decode cX9_accepts 80 = .ok (.aload_n 0, 1) := by decide +kernel
theorem dX9_accepts_81 : decode cX9_accepts 81 = .ok (.getfield 9, 3) := by decide +kernel
theorem dX9_accepts_84 : decode cX9_accepts 84 = .ok (.iload 5, 2) := by decide +kernel
theorem dX9_accepts_86 : decode cX9_accepts 86 = .ok (.iconst 0, 1) := by decide +kernel
theorem dX9_accepts_87 : decode cX9_accepts 87 = .ok (.iadd, 1) := by decide +kernel
theorem dX9_accepts_88 : decode cX9_accepts 88 = .ok (.aload_n 0, 1) := by decide +kernel
theorem dX9_accepts_89 : decode cX9_accepts 89 = .ok (.getfield 40, 3) := by decide +kernel
theorem dX9_accepts_92 : decode cX9_accepts 92 = .ok (.iastore, 1) := by decide +kernel
theorem dX9_accepts_93 : decode cX9_accepts 93 = .ok (.aload_n 0, 1) := by decide +kernel
theorem dX9_accepts_94 : decode cX9_accepts 94 = .ok (.getfield 9, 3) := by decide +kernel
theorem dX9_accepts_97 : decode cX9_accepts 97 = .ok (.iload 5, 2) := by decide +kernel
theorem dX9_accepts_99 : decode cX9_accepts 99 = .ok (.iconst 1, 1) := by decide +kernel
theorem dX9_accepts_100 : decode cX9_accepts 100 = .ok (.iadd, 1) := by decide +kernel
theorem dX9_accepts_101 : decode cX9_accepts 101 = .ok (.iload_n 1, 1) := by decide +kernel
theorem dX9_accepts_102 : decode cX9_accepts 102 = .ok (.iastore, 1) := by decide +kernel
theorem dX9_accepts_103 : decode cX9_accepts 103 = .ok (.aload_n 0, 1) := by decide +kernel
theorem dX9_accepts_104 : decode cX9_accepts 104 = .ok (.getfield 9, 3) := by decide +kernel
theorem dX9_accepts_107 : decode cX9_accepts 107 = .ok (.iload 5, 2) := by decide +kernel
theorem dX9_accepts_109 : decode cX9_accepts 109 = .ok (.iconst 2, 1) := by decide +kernel
theorem dX9_accepts_110 : decode cX9_accepts 110 = .ok (.iadd, 1) := by decide +kernel
theorem dX9_accepts_111 : decode cX9_accepts 111 = .ok (.iload_n 2, 1) := by decide +kernel
theorem dX9_accepts_112 : decode cX9_accepts 112 = .ok (.iastore, 1) := by decide +kernel
theorem dX9_accepts_113 : decode cX9_accepts 113 = .ok (.aload_n 0, 1) := by decide +kernel
theorem dX9_accepts_114 : decode cX9_accepts 114 = .ok (.getfield 9, 3) := by decide +kernel
theorem dX9_accepts_117 : decode cX9_accepts 117 = .ok (.iload 5, 2) := by decide +kernel
theorem dX9_accepts_119 : decode cX9_accepts 119 = .ok (.iconst 3, 1) := by decide +kernel
theorem dX9_accepts_120 : decode cX9_accepts 120 = .ok (.iadd, 1) := by decide +kernel
theorem dX9_accepts_121 : decode cX9_accepts 121 = .ok (.iload_n 3, 1) := by decide +kernel
theorem dX9_accepts_122 : decode cX9_accepts 122 = .ok (.iastore, 1) := by decide +kernel
theorem dX9_accepts_123 : decode cX9_accepts 123 = .ok (.aload_n 0, 1) := by decide +kernel
theorem dX9_accepts_124 : decode cX9_accepts 124 = .ok (.getfield 9, 3) := by decide +kernel
theorem dX9_accepts_127 : decode cX9_accepts 127 = .ok (.iload 5, 2) := by decide +kernel
theorem dX9_accepts_129 : decode cX9_accepts 129 = .ok (.iconst 4, 1) := by decide +kernel
theorem dX9_accepts_130 : decode cX9_accepts 130 = .ok (.iadd, 1) := by decide +kernel
theorem dX9_accepts_131 : decode cX9_accepts 131 = .ok (.iload 4, 2) := by decide +kernel
theorem dX9_accepts_133 : decode cX9_accepts 133 = .ok (.iastore, 1) := by decide +kernel
theorem dX9_accepts_134 : decode cX9_accepts 134 = .ok (.aload_n 0, 1) := by decide +kernel
theorem dX9_accepts_135 : decode cX9_accepts 135 = .ok (.getfield 9, 3) := by decide +kernel
theorem dX9_accepts_138 : decode cX9_accepts 138 = .ok (.iconst 2, 1) := by decide +kernel
theorem dX9_accepts_139 : decode cX9_accepts 139 = .ok (.dup2, 1) := by decide +kernel
theorem dX9_accepts_140 : decode cX9_accepts 140 = .ok (.iaload, 1) := by decide +kernel
theorem dX9_accepts_141 : decode cX9_accepts 141 = .ok (.iconst 1, 1) := by decide +kernel
theorem dX9_accepts_142 : decode cX9_accepts 142 = .ok (.iadd, 1) := by decide +kernel
theorem dX9_accepts_143 : decode cX9_accepts 143 = .ok (.iastore, 1) := by decide +kernel
theorem dX9_accepts_144 : decode cX9_accepts 144 = .ok (.aload_n 0, 1) := by decide +kernel
theorem dX9_accepts_145 : decode cX9_accepts 145 = .ok (.getfield 9, 3) := by decide +kernel
theorem dX9_accepts_148 : decode cX9_accepts 148 = .ok (.iconst 3, 1) := by decide +kernel
theorem dX9_accepts_149 : decode cX9_accepts 149 = .ok (.dup2, 1) := by decide +kernel
theorem dX9_accepts_150 : decode cX9_accepts 150 = .ok (.iaload, 1) := by decide +kernel
theorem dX9_accepts_151 : decode cX9_accepts 151 = .ok (.iconst 1, 1) := by decide +kernel
theorem dX9_accepts_152 : decode cX9_accepts 152 = .ok (.iadd, 1) := by decide +kernel
theorem dX9_accepts_153 : decode cX9_accepts 153 = .ok (.iastore, 1) := by decide +kernel
theorem dX9_accepts_154 : decode cX9_accepts 154 = .ok (.iconst 0, 1) := by decide +kernel
theorem dX9_accepts_155 : decode cX9_accepts 155 = .ok (.ireturn, 1) := by decide +kernel
theorem dX9_order_0 : decode cX9_order 0 = .ok (.aload_n 0, 1) := by decide +kernel
theorem dX9_order_1 : decode cX9_order 1 = .ok (.invokevirtual 67, 3) := by decide +kernel
theorem dX9_order_4 : decode cX9_order 4 = .ok (.aload_n 0, 1) := by decide +kernel
theorem dX9_order_5 : decode cX9_order 5 = .ok (.aload_n 0, 1) := by decide +kernel
theorem dX9_order_6 : decode cX9_order 6 = .ok (.iload_n 1, 1) := by decide +kernel
theorem dX9_order_7 : decode cX9_order 7 = .ok (.iload_n 2, 1) := by decide +kernel
theorem dX9_order_8 : decode cX9_order 8 = .ok (.iload_n 3, 1) := by decide +kernel
theorem dX9_order_9 : decode cX9_order 9 = .ok (.iload 4, 2) := by decide +kernel
theorem dX9_order_11 : decode cX9_order 11 = .ok (.invokevirtual 91, 3) := by decide +kernel
theorem dX9_order_14 : decode cX9_order 14 = .ok (.iconst 0, 1) := by decide +kernel
theorem dX9_order_15 : decode cX9_order 15 = .ok (.iconst 1, 1) := by decide +kernel
theorem dX9_order_16 : decode cX9_order 16 = .ok (.iconst 2, 1) := by decide +kernel
theorem dX9_order_17 : decode cX9_order 17 = .ok (.iconst 0, 1) := by decide +kernel
theorem dX9_order_18 : decode cX9_order 18 = .ok (.invokevirtual 73, 3) := by decide +kernel
theorem dX9_order_21 : decode cX9_order 21 = .ok (.ireturn, 1) := by decide +kernel
theorem dX9_cancels_0 : decode cX9_cancels 0 = .ok (.aload_n 0, 1) := by decide +kernel
theorem dX9_cancels_1 : decode cX9_cancels 1 = .ok (.iload_n 1, 1) := by decide +kernel
theorem dX9_cancels_2 : decode cX9_cancels 2 = .ok (.invokevirtual 95, 3) := by decide +kernel
theorem dX9_cancels_5 : decode cX9_cancels 5 = .ok (.istore_n 2, 1) := by decide +kernel
theorem dX9_cancels_6 : decode cX9_cancels 6 = .ok (.iload_n 2, 1) := by decide +kernel
theorem dX9_cancels_7 : decode cX9_cancels 7 = .ok (.ifCond .ge 5, 3) := by decide +kernel
theorem dX9_cancels_10 : decode cX9_cancels 10 = .ok (.iconst 4, 1) := by decide +kernel
theorem dX9_cancels_11 : decode cX9_cancels 11 = .ok (.ireturn, 1) := by decide +kernel
theorem dX9_cancels_12 : decode cX9_cancels 12 = .ok (.aload_n 0, 1) := by decide +kernel
theorem dX9_cancels_13 : decode cX9_cancels 13 = .ok (.iload_n 2, 1) := by decide +kernel
theorem dX9_cancels_14 : decode cX9_cancels 14 = .ok (.invokevirtual 98, 3) := by decide +kernel
theorem dX9_cancels_17 : decode cX9_cancels 17 = .ok (.aload_n 0, 1) := by decide +kernel
theorem dX9_cancels_18 : decode cX9_cancels 18 = .ok (.aload_n 0, 1) := by decide +kernel
theorem dX9_cancels_19 : decode cX9_cancels 19 = .ok (.getfield 9, 3) := by decide +kernel
theorem dX9_cancels_22 : decode cX9_cancels 22 = .ok (.iconst 2, 1) := by decide +kernel
theorem dX9_cancels_23 : decode cX9_cancels 23 = .ok (.iaload, 1) := by decide +kernel
theorem dX9_cancels_24 : decode cX9_cancels 24 = .ok (.putfield 40, 3) := by decide +kernel
theorem dX9_cancels_27 : decode cX9_cancels 27 = .ok (.iconst 0, 1) := by decide +kernel
theorem dX9_cancels_28 : decode cX9_cancels 28 = .ok (.ireturn, 1) := by decide +kernel
theorem dX9_cancel_0 : decode cX9_cancel 0 = .ok (.aload_n 0, 1) := by decide +kernel
theorem dX9_cancel_1 : decode cX9_cancel 1 = .ok (.invokevirtual 67, 3) := by decide +kernel
theorem dX9_cancel_4 : decode cX9_cancel 4 = .ok (.aload_n 0, 1) := by decide +kernel
theorem dX9_cancel_5 : decode cX9_cancel 5 = .ok (.aload_n 0, 1) := by decide +kernel
theorem dX9_cancel_6 : decode cX9_cancel 6 = .ok (.iload_n 1, 1) := by decide +kernel
theorem dX9_cancel_7 : decode cX9_cancel 7 = .ok (.invokevirtual 102, 3) := by decide +kernel
theorem dX9_cancel_10 : decode cX9_cancel 10 = .ok (.iconst 0, 1) := by decide +kernel
theorem dX9_cancel_11 : decode cX9_cancel 11 = .ok (.iconst 0, 1) := by decide +kernel
theorem dX9_cancel_12 : decode cX9_cancel 12 = .ok (.iconst 0, 1) := by decide +kernel
theorem dX9_cancel_13 : decode cX9_cancel 13 = .ok (.iconst 1, 1) := by decide +kernel
theorem dX9_cancel_14 : decode cX9_cancel 14 = .ok (.invokevirtual 73, 3) := by decide +kernel
theorem dX9_cancel_17 : decode cX9_cancel 17 = .ok (.ireturn, 1) := by decide +kernel
theorem dX9_isServable_0 : decode cX9_isServable 0 = .ok (.aload_n 0, 1) := by decide +kernel
theorem dX9_isServable_1 : decode cX9_isServable 1 = .ok (.iconst 0, 1) := by decide +kernel
theorem dX9_isServable_2 : decode cX9_isServable 2 = .ok (.invokevirtual 105, 3) := by decide +kernel
theorem dX9_isServable_5 : decode cX9_isServable 5 = .ok (.istore_n 1, 1) := by decide +kernel
theorem dX9_isServable_6 : decode cX9_isServable 6 = .ok (.iload_n 1, 1) := by decide +kernel
theorem dX9_isServable_7 : decode cX9_isServable 7 = .ok (.ifCond .lt 33, 3) := by decide +kernel
theorem dX9_isServable_10 : decode cX9_isServable 10 = .ok (.aload_n 0, 1) := by decide +kernel
theorem dX9_isServable_11 : decode cX9_isServable 11 = .ok (.iload_n 1, 1) := by decide +kernel
theorem dX9_isServable_12 : decode cX9_isServable 12 = .ok (.invokevirtual 108, 3) := by decide +kernel
theorem dX9_isServable_15 : decode cX9_isServable 15 = .ok (.ifCond .lt 25, 3) := by decide +kernel
theorem dX9_isServable_18 : decode cX9_isServable 18 = .ok (.bipush 20, 2) := by decide +kernel
theorem dX9_isServable_20 : decode cX9_isServable 20 = .ok (.aload_n 0, 1) := by decide +kernel
theorem dX9_isServable_21 : decode cX9_isServable 21 = .ok (.getfield 9, 3) := by decide +kernel
theorem dX9_isServable_24 : decode cX9_isServable 24 = .ok (.iconst 4, 1) := by decide +kernel
theorem dX9_isServable_25 : decode cX9_isServable 25 = .ok (.iaload, 1) := by decide +kernel
theorem dX9_isServable_26 : decode cX9_isServable 26 = .ok (.isub, 1) := by decide +kernel
theorem dX9_isServable_27 : decode cX9_isServable 27 = .ok (.aload_n 0, 1) := by decide +kernel
theorem dX9_isServable_28 : decode cX9_isServable 28 = .ok (.iload_n 1, 1) := by decide +kernel
theorem dX9_isServable_29 : decode cX9_isServable 29 = .ok (.iconst 2, 1) := by decide +kernel
theorem dX9_isServable_30 : decode cX9_isServable 30 = .ok (.invokevirtual 48, 3) := by decide +kernel
theorem dX9_isServable_33 : decode cX9_isServable 33 = .ok (.if_icmp .lt 7, 3) := by decide +kernel
theorem dX9_isServable_36 : decode cX9_isServable 36 = .ok (.iconst 1, 1) := by decide +kernel
theorem dX9_isServable_37 : decode cX9_isServable 37 = .ok (.goto 4, 3) := by decide +kernel
theorem dX9_isServable_40 : decode cX9_isServable 40 = .ok (.iconst 0, 1) := by decide +kernel
theorem dX9_isServable_41 : decode cX9_isServable 41 = .ok (.ireturn, 1) := by decide +kernel
theorem dX9_earns_0 : decode cX9_earns 0 = .ok (.aload_n 0, 1) := by decide +kernel
theorem dX9_earns_1 : decode cX9_earns 1 = .ok (.getfield 9, 3) := by decide +kernel
theorem dX9_earns_4 : decode cX9_earns 4 = .ok (.bipush 12, 2) := by decide +kernel
theorem dX9_earns_6 : decode cX9_earns 6 = .ok (.dup2, 1) := by decide +kernel
theorem dX9_earns_7 : decode cX9_earns 7 = .ok (.iaload, 1) := by decide +kernel
theorem dX9_earns_8 : decode cX9_earns 8 = .ok (.iload_n 2, 1) := by decide +kernel
theorem dX9_earns_9 : decode cX9_earns 9 = .ok (.iadd, 1) := by decide +kernel
theorem dX9_earns_10 : decode cX9_earns 10 = .ok (.iastore, 1) := by decide +kernel
theorem dX9_earns_11 : decode cX9_earns 11 = .ok (.aload_n 0, 1) := by decide +kernel
theorem dX9_earns_12 : decode cX9_earns 12 = .ok (.getfield 9, 3) := by decide +kernel
theorem dX9_earns_15 : decode cX9_earns 15 = .ok (.iload_n 1, 1) := by decide +kernel
theorem dX9_earns_16 : decode cX9_earns 16 = .ok (.dup2, 1) := by decide +kernel
theorem dX9_earns_17 : decode cX9_earns 17 = .ok (.iaload, 1) := by decide +kernel
theorem dX9_earns_18 : decode cX9_earns 18 = .ok (.iload_n 2, 1) := by decide +kernel
theorem dX9_earns_19 : decode cX9_earns 19 = .ok (.iadd, 1) := by decide +kernel
theorem dX9_earns_20 : decode cX9_earns 20 = .ok (.iastore, 1) := by decide +kernel
theorem dX9_earns_21 : decode cX9_earns 21 = .ok (.return_, 1) := by decide +kernel
theorem dX9_serves_0 : decode cX9_serves 0 = .ok (.aload_n 0, 1) := by decide +kernel
theorem dX9_serves_1 : decode cX9_serves 1 = .ok (.invokevirtual 111, 3) := by decide +kernel
theorem dX9_serves_4 : decode cX9_serves 4 = .ok (.ifCond .ne 5, 3) := by decide +kernel
theorem dX9_serves_7 : decode cX9_serves 7 = .ok (.iconst 3, 1) := by decide +kernel
theorem dX9_serves_8 : decode cX9_serves 8 = .ok (.ireturn, 1) := by decide +kernel
theorem dX9_serves_9 : decode cX9_serves 9 = .ok (.aload_n 0, 1) := by decide +kernel
theorem dX9_serves_10 : decode cX9_serves 10 = .ok (.iconst 0, 1) := by decide +kernel
theorem dX9_serves_11 : decode cX9_serves 11 = .ok (.invokevirtual 105, 3) := by decide +kernel
theorem dX9_serves_14 : decode cX9_serves 14 = .ok (.istore_n 1, 1) := by decide +kernel
theorem dX9_serves_15 : decode cX9_serves 15 = .ok (.aload_n 0, 1) := by decide +kernel
theorem dX9_serves_16 : decode cX9_serves 16 = .ok (.iload_n 1, 1) := by decide +kernel
theorem dX9_serves_17 : decode cX9_serves 17 = .ok (.invokevirtual 108, 3) := by decide +kernel
theorem dX9_serves_20 : decode cX9_serves 20 = .ok (.istore_n 2, 1) := by decide +kernel
theorem dX9_serves_21 : decode cX9_serves 21 = .ok (.aload_n 0, 1) := by decide +kernel
theorem dX9_serves_22 : decode cX9_serves 22 = .ok (.iload_n 1, 1) := by decide +kernel
theorem dX9_serves_23 : decode cX9_serves 23 = .ok (.iconst 2, 1) := by decide +kernel
theorem dX9_serves_24 : decode cX9_serves 24 = .ok (.invokevirtual 48, 3) := by decide +kernel
theorem dX9_serves_27 : decode cX9_serves 27 = .ok (.istore_n 3, 1) := by decide +kernel
theorem dX9_serves_28 : decode cX9_serves 28 = .ok (.aload_n 0, 1) := by decide +kernel
theorem dX9_serves_29 : decode cX9_serves 29 = .ok (.aload_n 0, 1) := by decide +kernel
theorem dX9_serves_30 : decode cX9_serves 30 = .ok (.iload_n 1, 1) := by decide +kernel
theorem dX9_serves_31 : decode cX9_serves 31 = .ok (.iconst 0, 1) := by decide +kernel
theorem dX9_serves_32 : decode cX9_serves 32 = .ok (.invokevirtual 48, 3) := by decide +kernel
theorem dX9_serves_35 : decode cX9_serves 35 = .ok (.putfield 40, 3) := by decide +kernel
theorem dX9_serves_38 : decode cX9_serves 38 = .ok (.aload_n 0, 1) := by decide +kernel
theorem dX9_serves_39 : decode cX9_serves 39 = .ok (.iload_n 2, 1) := by decide +kernel
theorem dX9_serves_40 : decode cX9_serves 40 = .ok (.iconst 1, 1) := by decide +kernel
theorem dX9_serves_41 : decode cX9_serves 41 = .ok (.aload_n 0, 1) := by decide +kernel
theorem dX9_serves_42 : decode cX9_serves 42 = .ok (.iload_n 2, 1) := by decide +kernel
theorem dX9_serves_43 : decode cX9_serves 43 = .ok (.iconst 1, 1) := by decide +kernel
theorem dX9_serves_44 : decode cX9_serves 44 = .ok (.invokevirtual 60, 3) := by decide +kernel
theorem dX9_serves_47 : decode cX9_serves 47 = .ok (.iconst 2, 1) := by decide +kernel
theorem dX9_serves_48 : decode cX9_serves 48 = .ok (.iload_n 3, 1) := by decide +kernel
theorem dX9_serves_49 : decode cX9_serves 49 = .ok (.imul, 1) := by decide +kernel
theorem dX9_serves_50 : decode cX9_serves 50 = .ok (.isub, 1) := by decide +kernel
theorem dX9_serves_51 : decode cX9_serves 51 = .ok (.invokevirtual 63, 3) := by decide +kernel
theorem dX9_serves_54 : decode cX9_serves 54 = .ok (.aload_n 0, 1) := by decide +kernel
theorem dX9_serves_55 : decode cX9_serves 55 = .ok (.getfield 9, 3) := by decide +kernel
theorem dX9_serves_58 : decode cX9_serves 58 = .ok (.bipush 7, 2) := by decide +kernel
theorem dX9_serves_60 : decode cX9_serves 60 = .ok (.dup2, 1) := by decide +kernel
theorem dX9_serves_61 : decode cX9_serves 61 = .ok (.iaload, 1) := by decide +kernel
theorem dX9_serves_62 : decode cX9_serves 62 = .ok (.iconst 2, 1) := by decide +kernel
theorem dX9_serves_63 : decode cX9_serves 63 = .ok (.iload_n 3, 1) := by decide +kernel
theorem dX9_serves_64 : decode cX9_serves 64 = .ok (.imul, 1) := by decide +kernel
theorem dX9_serves_65 : decode cX9_serves 65 = .ok (.iadd, 1) := by decide +kernel
theorem dX9_serves_66 : decode cX9_serves 66 = .ok (.iastore, 1) := by decide +kernel
theorem dX9_serves_67 : decode cX9_serves 67 = .ok (.aload_n 0, 1) := by decide +kernel
theorem dX9_serves_68 : decode cX9_serves 68 = .ok (.getfield 9, 3) := by decide +kernel
theorem dX9_serves_71 : decode cX9_serves 71 = .ok (.iconst 4, 1) := by decide +kernel
theorem dX9_serves_72 : decode cX9_serves 72 = .ok (.dup2, 1) := by decide +kernel
theorem dX9_serves_73 : decode cX9_serves 73 = .ok (.iaload, 1) := by decide +kernel
theorem dX9_serves_74 : decode cX9_serves 74 = .ok (.iload_n 3, 1) := by decide +kernel
theorem dX9_serves_75 : decode cX9_serves 75 = .ok (.iadd, 1) := by decide +kernel
theorem dX9_serves_76 : decode cX9_serves 76 = .ok (.iastore, 1) := by decide +kernel
theorem dX9_serves_77 : decode cX9_serves 77 = .ok (.aload_n 0, 1) := by decide +kernel
theorem dX9_serves_78 : decode cX9_serves 78 = .ok (.getfield 9, 3) := by decide +kernel
theorem dX9_serves_81 : decode cX9_serves 81 = .ok (.bipush 14, 2) := by decide +kernel
theorem dX9_serves_83 : decode cX9_serves 83 = .ok (.dup2, 1) := by decide +kernel
theorem dX9_serves_84 : decode cX9_serves 84 = .ok (.iaload, 1) := by decide +kernel
theorem dX9_serves_85 : decode cX9_serves 85 = .ok (.iconst 1, 1) := by decide +kernel
theorem dX9_serves_86 : decode cX9_serves 86 = .ok (.iadd, 1) := by decide +kernel
theorem dX9_serves_87 : decode cX9_serves 87 = .ok (.iastore, 1) := by decide +kernel
theorem dX9_serves_88 : decode cX9_serves 88 = .ok (.aload_n 0, 1) := by decide +kernel
theorem dX9_serves_89 : decode cX9_serves 89 = .ok (.bipush 17, 2) := by decide +kernel
theorem dX9_serves_91 : decode cX9_serves 91 = .ok (.iload_n 3, 1) := by decide +kernel
theorem dX9_serves_92 : decode cX9_serves 92 = .ok (.aload_n 0, 1) := by decide +kernel
theorem dX9_serves_93 : decode cX9_serves 93 = .ok (.getfield 9, 3) := by decide +kernel
theorem dX9_serves_96 : decode cX9_serves 96 = .ok (.bipush 9, 2) := by decide +kernel
theorem dX9_serves_98 : decode cX9_serves 98 = .ok (.iaload, 1) := by decide +kernel
theorem dX9_serves_99 : decode cX9_serves 99 = .ok (.imul, 1) := by decide +kernel
theorem dX9_serves_100 : decode cX9_serves 100 = .ok (.invokevirtual 115, 3) := by decide +kernel
theorem dX9_serves_103 : decode cX9_serves 103 = .ok (.aload_n 0, 1) := by decide +kernel
theorem dX9_serves_104 : decode cX9_serves 104 = .ok (.iload_n 1, 1) := by decide +kernel
theorem dX9_serves_105 : decode cX9_serves 105 = .ok (.invokevirtual 98, 3) := by decide +kernel
theorem dX9_serves_108 : decode cX9_serves 108 = .ok (.iconst 0, 1) := by decide +kernel
theorem dX9_serves_109 : decode cX9_serves 109 = .ok (.ireturn, 1) := by decide +kernel
theorem dX9_serveNext_0 : decode cX9_serveNext 0 = .ok (.aload_n 0, 1) := by decide +kernel
theorem dX9_serveNext_1 : decode cX9_serveNext 1 = .ok (.invokevirtual 67, 3) := by decide +kernel
theorem dX9_serveNext_4 : decode cX9_serveNext 4 = .ok (.aload_n 0, 1) := by decide +kernel
theorem dX9_serveNext_5 : decode cX9_serveNext 5 = .ok (.aload_n 0, 1) := by decide +kernel
theorem dX9_serveNext_6 : decode cX9_serveNext 6 = .ok (.invokevirtual 118, 3) := by decide +kernel
theorem dX9_serveNext_9 : decode cX9_serveNext 9 = .ok (.iconst 0, 1) := by decide +kernel
theorem dX9_serveNext_10 : decode cX9_serveNext 10 = .ok (.iconst 0, 1) := by decide +kernel
theorem dX9_serveNext_11 : decode cX9_serveNext 11 = .ok (.iconst 1, 1) := by decide +kernel
theorem dX9_serveNext_12 : decode cX9_serveNext 12 = .ok (.iconst 0, 1) := by decide +kernel
theorem dX9_serveNext_13 : decode cX9_serveNext 13 = .ok (.invokevirtual 73, 3) := by decide +kernel
theorem dX9_serveNext_16 : decode cX9_serveNext 16 = .ok (.ireturn, 1) := by decide +kernel
theorem dX9_washes_0 : decode cX9_washes 0 = .ok (.iload_n 1, 1) := by decide +kernel
theorem dX9_washes_1 : decode cX9_washes 1 = .ok (.iconst 1, 1) := by decide +kernel
theorem dX9_washes_2 : decode cX9_washes 2 = .ok (.bipush 20, 2) := by decide +kernel
theorem dX9_washes_4 : decode cX9_washes 4 = .ok (.invokestatic 44, 3) := by decide +kernel
theorem dX9_washes_7 : decode cX9_washes 7 = .ok (.ifCond .ne 5, 3) := by decide +kernel
theorem dX9_washes_10 : decode cX9_washes 10 = .ok (.iconst 2, 1) := by decide +kernel
theorem dX9_washes_11 : decode cX9_washes 11 = .ok (.ireturn, 1) := by decide +kernel
theorem dX9_washes_12 : decode cX9_washes 12 = .ok (.iload_n 1, 1) := by decide +kernel
theorem dX9_washes_13 : decode cX9_washes 13 = .ok (.aload_n 0, 1) := by decide +kernel
theorem dX9_washes_14 : decode cX9_washes 14 = .ok (.getfield 9, 3) := by decide +kernel
theorem dX9_washes_17 : decode cX9_washes 17 = .ok (.iconst 4, 1) := by decide +kernel
theorem dX9_washes_18 : decode cX9_washes 18 = .ok (.iaload, 1) := by decide +kernel
theorem dX9_washes_19 : decode cX9_washes 19 = .ok (.if_icmp .le 5, 3) := by decide +kernel
theorem dX9_washes_22 : decode cX9_washes 22 = .ok (.iconst 3, 1) := by decide +kernel
theorem dX9_washes_23 : decode cX9_washes 23 = .ok (.ireturn, 1) := by decide +kernel
theorem dX9_washes_24 : decode cX9_washes 24 = .ok (.aload_n 0, 1) := by decide +kernel
theorem dX9_washes_25 : decode cX9_washes 25 = .ok (.getfield 9, 3) := by decide +kernel
theorem dX9_washes_28 : decode cX9_washes 28 = .ok (.iconst 4, 1) := by decide +kernel
theorem dX9_washes_29 : decode cX9_washes 29 = .ok (.dup2, 1) := by decide +kernel
theorem dX9_washes_30 : decode cX9_washes 30 = .ok (.iaload, 1) := by decide +kernel
theorem dX9_washes_31 : decode cX9_washes 31 = .ok (.iload_n 1, 1) := by decide +kernel
theorem dX9_washes_32 : decode cX9_washes 32 = .ok (.isub, 1) := by decide +kernel
theorem dX9_washes_33 : decode cX9_washes 33 = .ok (.iastore, 1) := by decide +kernel
theorem dX9_washes_34 : decode cX9_washes 34 = .ok (.aload_n 0, 1) := by decide +kernel
theorem dX9_washes_35 : decode cX9_washes 35 = .ok (.bipush 20, 2) := by decide +kernel
theorem dX9_washes_37 : decode cX9_washes 37 = .ok (.aload_n 0, 1) := by decide +kernel
theorem dX9_washes_38 : decode cX9_washes 38 = .ok (.getfield 9, 3) := by decide +kernel
theorem dX9_washes_41 : decode cX9_washes 41 = .ok (.iconst 4, 1) := by decide +kernel
theorem dX9_washes_42 : decode cX9_washes 42 = .ok (.iaload, 1) := by decide +kernel
theorem dX9_washes_43 : decode cX9_washes 43 = .ok (.isub, 1) := by decide +kernel
theorem dX9_washes_44 : decode cX9_washes 44 = .ok (.putfield 40, 3) := by decide +kernel
theorem dX9_washes_47 : decode cX9_washes 47 = .ok (.iconst 0, 1) := by decide +kernel
theorem dX9_washes_48 : decode cX9_washes 48 = .ok (.ireturn, 1) := by decide +kernel
theorem dX9_wash_0 : decode cX9_wash 0 = .ok (.aload_n 0, 1) := by decide +kernel
theorem dX9_wash_1 : decode cX9_wash 1 = .ok (.invokevirtual 67, 3) := by decide +kernel
theorem dX9_wash_4 : decode cX9_wash 4 = .ok (.aload_n 0, 1) := by decide +kernel
theorem dX9_wash_5 : decode cX9_wash 5 = .ok (.aload_n 0, 1) := by decide +kernel
theorem dX9_wash_6 : decode cX9_wash 6 = .ok (.iload_n 1, 1) := by decide +kernel
theorem dX9_wash_7 : decode cX9_wash 7 = .ok (.invokevirtual 122, 3) := by decide +kernel
theorem dX9_wash_10 : decode cX9_wash 10 = .ok (.iconst 0, 1) := by decide +kernel
theorem dX9_wash_11 : decode cX9_wash 11 = .ok (.iconst 1, 1) := by decide +kernel
theorem dX9_wash_12 : decode cX9_wash 12 = .ok (.iconst 2, 1) := by decide +kernel
theorem dX9_wash_13 : decode cX9_wash 13 = .ok (.iconst 0, 1) := by decide +kernel
theorem dX9_wash_14 : decode cX9_wash 14 = .ok (.invokevirtual 73, 3) := by decide +kernel
theorem dX9_wash_17 : decode cX9_wash 17 = .ok (.ireturn, 1) := by decide +kernel
theorem dX9_sells_0 : decode cX9_sells 0 = .ok (.iload_n 1, 1) := by decide +kernel
theorem dX9_sells_1 : decode cX9_sells 1 = .ok (.iconst 1, 1) := by decide +kernel
theorem dX9_sells_2 : decode cX9_sells 2 = .ok (.bipush 80, 2) := by decide +kernel
theorem dX9_sells_4 : decode cX9_sells 4 = .ok (.invokestatic 44, 3) := by decide +kernel
theorem dX9_sells_7 : decode cX9_sells 7 = .ok (.ifCond .ne 5, 3) := by decide +kernel
theorem dX9_sells_10 : decode cX9_sells 10 = .ok (.iconst 2, 1) := by decide +kernel
theorem dX9_sells_11 : decode cX9_sells 11 = .ok (.ireturn, 1) := by decide +kernel
theorem dX9_sells_12 : decode cX9_sells 12 = .ok (.iload_n 1, 1) := by decide +kernel
theorem dX9_sells_13 : decode cX9_sells 13 = .ok (.aload_n 0, 1) := by decide +kernel
theorem dX9_sells_14 : decode cX9_sells 14 = .ok (.getfield 9, 3) := by decide +kernel
theorem dX9_sells_17 : decode cX9_sells 17 = .ok (.iconst 5, 1) := by decide +kernel
theorem dX9_sells_18 : decode cX9_sells 18 = .ok (.iaload, 1) := by decide +kernel
theorem dX9_sells_19 : decode cX9_sells 19 = .ok (.if_icmp .le 5, 3) := by decide +kernel
theorem dX9_sells_22 : decode cX9_sells 22 = .ok (.iconst 3, 1) := by decide +kernel
theorem dX9_sells_23 : decode cX9_sells 23 = .ok (.ireturn, 1) := by decide +kernel
theorem dX9_sells_24 : decode cX9_sells 24 = .ok (.aload_n 0, 1) := by decide +kernel
theorem dX9_sells_25 : decode cX9_sells 25 = .ok (.getfield 9, 3) := by decide +kernel
theorem dX9_sells_28 : decode cX9_sells 28 = .ok (.iconst 5, 1) := by decide +kernel
theorem dX9_sells_29 : decode cX9_sells 29 = .ok (.dup2, 1) := by decide +kernel
theorem dX9_sells_30 : decode cX9_sells 30 = .ok (.iaload, 1) := by decide +kernel
theorem dX9_sells_31 : decode cX9_sells 31 = .ok (.iload_n 1, 1) := by decide +kernel
theorem dX9_sells_32 : decode cX9_sells 32 = .ok (.isub, 1) := by decide +kernel
theorem dX9_sells_33 : decode cX9_sells 33 = .ok (.iastore, 1) := by decide +kernel
theorem dX9_sells_34 : decode cX9_sells 34 = .ok (.aload_n 0, 1) := by decide +kernel
theorem dX9_sells_35 : decode cX9_sells 35 = .ok (.iload_n 1, 1) := by decide +kernel
theorem dX9_sells_36 : decode cX9_sells 36 = .ok (.aload_n 0, 1) := by decide +kernel
theorem dX9_sells_37 : decode cX9_sells 37 = .ok (.getfield 9, 3) := by decide +kernel
theorem dX9_sells_40 : decode cX9_sells 40 = .ok (.bipush 10, 2) := by decide +kernel
theorem dX9_sells_42 : decode cX9_sells 42 = .ok (.iaload, 1) := by decide +kernel
theorem dX9_sells_43 : decode cX9_sells 43 = .ok (.imul, 1) := by decide +kernel
theorem dX9_sells_44 : decode cX9_sells 44 = .ok (.putfield 40, 3) := by decide +kernel
theorem dX9_sells_47 : decode cX9_sells 47 = .ok (.aload_n 0, 1) := by decide +kernel
theorem dX9_sells_48 : decode cX9_sells 48 = .ok (.bipush 18, 2) := by decide +kernel
theorem dX9_sells_50 : decode cX9_sells 50 = .ok (.aload_n 0, 1) := by decide +kernel
theorem dX9_sells_51 : decode cX9_sells 51 = .ok (.getfield 40, 3) := by decide +kernel
theorem dX9_sells_54 : decode cX9_sells 54 = .ok (.invokevirtual 115, 3) := by decide +kernel
theorem dX9_sells_57 : decode cX9_sells 57 = .ok (.iconst 0, 1) := by decide +kernel
theorem dX9_sells_58 : decode cX9_sells 58 = .ok (.ireturn, 1) := by decide +kernel
theorem dX9_sellSteam_0 : decode cX9_sellSteam 0 = .ok (.aload_n 0, 1) := by decide +kernel
theorem dX9_sellSteam_1 : decode cX9_sellSteam 1 = .ok (.invokevirtual 67, 3) := by decide +kernel
theorem dX9_sellSteam_4 : decode cX9_sellSteam 4 = .ok (.aload_n 0, 1) := by decide +kernel
theorem dX9_sellSteam_5 : decode cX9_sellSteam 5 = .ok (.aload_n 0, 1) := by decide +kernel
theorem dX9_sellSteam_6 : decode cX9_sellSteam 6 = .ok (.iload_n 1, 1) := by decide +kernel
theorem dX9_sellSteam_7 : decode cX9_sellSteam 7 = .ok (.invokevirtual 125, 3) := by decide +kernel
theorem dX9_sellSteam_10 : decode cX9_sellSteam 10 = .ok (.iconst 0, 1) := by decide +kernel
theorem dX9_sellSteam_11 : decode cX9_sellSteam 11 = .ok (.iconst 1, 1) := by decide +kernel
theorem dX9_sellSteam_12 : decode cX9_sellSteam 12 = .ok (.iconst 2, 1) := by decide +kernel
theorem dX9_sellSteam_13 : decode cX9_sellSteam 13 = .ok (.iconst 0, 1) := by decide +kernel
theorem dX9_sellSteam_14 : decode cX9_sellSteam 14 = .ok (.invokevirtual 73, 3) := by decide +kernel
theorem dX9_sellSteam_17 : decode cX9_sellSteam 17 = .ok (.invokestatic 128, 3) := by decide +kernel
theorem dX9_sellSteam_20 : decode cX9_sellSteam 20 = .ok (.freturn, 1) := by decide +kernel
theorem dX9_prices_0 : decode cX9_prices 0 = .ok (.iload_n 2, 1) := by decide +kernel
theorem dX9_prices_1 : decode cX9_prices 1 = .ok (.iconst 1, 1) := by decide +kernel
theorem dX9_prices_2 : decode cX9_prices 2 = .ok (.bipush 80, 2) := by decide +kernel
theorem dX9_prices_4 : decode cX9_prices 4 = .ok (.invokestatic 44, 3) := by decide +kernel
theorem dX9_prices_7 : decode cX9_prices 7 = .ok (.ifCond .ne 5, 3) := by decide +kernel
theorem dX9_prices_10 : decode cX9_prices 10 = .ok (.iconst 2, 1) := by decide +kernel
theorem dX9_prices_11 : decode cX9_prices 11 = .ok (.ireturn, 1) := by decide +kernel
theorem dX9_prices_12 : decode cX9_prices 12 = .ok (.aload_n 0, 1) := by decide +kernel
theorem dX9_prices_13 : decode cX9_prices 13 = .ok (.aload_n 0, 1) := by decide +kernel
theorem dX9_prices_14 : decode cX9_prices 14 = .ok (.getfield 9, 3) := by decide +kernel
theorem dX9_prices_17 : decode cX9_prices 17 = .ok (.iload_n 1, 1) := by decide +kernel
theorem dX9_prices_18 : decode cX9_prices 18 = .ok (.iaload, 1) := by decide +kernel
theorem dX9_prices_19 : decode cX9_prices 19 = .ok (.putfield 40, 3) := by decide +kernel
theorem dX9_prices_22 : decode cX9_prices 22 = .ok (.aload_n 0, 1) := by decide +kernel
theorem dX9_prices_23 : decode cX9_prices 23 = .ok (.getfield 9, 3) := by decide +kernel
theorem dX9_prices_26 : decode cX9_prices 26 = .ok (.iload_n 1, 1) := by decide +kernel
theorem dX9_prices_27 : decode cX9_prices 27 = .ok (.iload_n 2, 1) := by decide +kernel
theorem dX9_prices_28 : decode cX9_prices 28 = .ok (.iastore, 1) := by decide +kernel
theorem dX9_prices_29 : decode cX9_prices 29 = .ok (.iconst 0, 1) := by decide +kernel
theorem dX9_prices_30 : decode cX9_prices 30 = .ok (.ireturn, 1) := by decide +kernel
theorem dX9_setCupPrice_0 : decode cX9_setCupPrice 0 = .ok (.aload_n 0, 1) := by decide +kernel
theorem dX9_setCupPrice_1 : decode cX9_setCupPrice 1 = .ok (.invokevirtual 67, 3) := by decide +kernel
theorem dX9_setCupPrice_4 : decode cX9_setCupPrice 4 = .ok (.aload_n 0, 1) := by decide +kernel
theorem dX9_setCupPrice_5 : decode cX9_setCupPrice 5 = .ok (.aload_n 0, 1) := by decide +kernel
theorem dX9_setCupPrice_6 : decode cX9_setCupPrice 6 = .ok (.bipush 9, 2) := by decide +kernel
theorem dX9_setCupPrice_8 : decode cX9_setCupPrice 8 = .ok (.iload_n 1, 1) := by decide +kernel
theorem dX9_setCupPrice_9 : decode cX9_setCupPrice 9 = .ok (.invokevirtual 131, 3) := by decide +kernel
theorem dX9_setCupPrice_12 : decode cX9_setCupPrice 12 = .ok (.iconst 0, 1) := by decide +kernel
theorem dX9_setCupPrice_13 : decode cX9_setCupPrice 13 = .ok (.iconst 1, 1) := by decide +kernel
theorem dX9_setCupPrice_14 : decode cX9_setCupPrice 14 = .ok (.iconst 0, 1) := by decide +kernel
theorem dX9_setCupPrice_15 : decode cX9_setCupPrice 15 = .ok (.iconst 0, 1) := by decide +kernel
theorem dX9_setCupPrice_16 : decode cX9_setCupPrice 16 = .ok (.invokevirtual 73, 3) := by decide +kernel
theorem dX9_setCupPrice_19 : decode cX9_setCupPrice 19 = .ok (.invokestatic 128, 3) := by decide +kernel
theorem dX9_setCupPrice_22 : decode cX9_setCupPrice 22 = .ok (.freturn, 1) := by decide +kernel
theorem dX9_setSteamPrice_0 : decode cX9_setSteamPrice 0 = .ok (.aload_n 0, 1) := by decide +kernel
theorem dX9_setSteamPrice_1 : decode cX9_setSteamPrice 1 = .ok (.invokevirtual 67, 3) := by decide +kernel
theorem dX9_setSteamPrice_4 : decode cX9_setSteamPrice 4 = .ok (.aload_n 0, 1) := by decide +kernel
theorem dX9_setSteamPrice_5 : decode cX9_setSteamPrice 5 = .ok (.aload_n 0, 1) := by decide +kernel
theorem dX9_setSteamPrice_6 : decode cX9_setSteamPrice 6 = .ok (.bipush 10, 2) := by decide +kernel
theorem dX9_setSteamPrice_8 : decode cX9_setSteamPrice 8 = .ok (.iload_n 1, 1) := by decide +kernel
theorem dX9_setSteamPrice_9 : decode cX9_setSteamPrice 9 = .ok (.invokevirtual 131, 3) := by decide +kernel
theorem dX9_setSteamPrice_12 : decode cX9_setSteamPrice 12 = .ok (.iconst 0, 1) := by decide +kernel
theorem dX9_setSteamPrice_13 : decode cX9_setSteamPrice 13 = .ok (.iconst 1, 1) := by decide +kernel
theorem dX9_setSteamPrice_14 : decode cX9_setSteamPrice 14 = .ok (.iconst 0, 1) := by decide +kernel
theorem dX9_setSteamPrice_15 : decode cX9_setSteamPrice 15 = .ok (.iconst 0, 1) := by decide +kernel
theorem dX9_setSteamPrice_16 : decode cX9_setSteamPrice 16 = .ok (.invokevirtual 73, 3) := by decide +kernel
theorem dX9_setSteamPrice_19 : decode cX9_setSteamPrice 19 = .ok (.i2f, 1) := by decide +kernel
theorem dX9_setSteamPrice_20 : decode cX9_setSteamPrice 20 = .ok (.freturn, 1) := by decide +kernel
theorem dX9_attends_0 : decode cX9_attends 0 = .ok (.aload_n 0, 1) := by decide +kernel
theorem dX9_attends_1 : decode cX9_attends 1 = .ok (.aload_n 0, 1) := by decide +kernel
theorem dX9_attends_2 : decode cX9_attends 2 = .ok (.getfield 9, 3) := by decide +kernel
theorem dX9_attends_5 : decode cX9_attends 5 = .ok (.bipush 11, 2) := by decide +kernel
theorem dX9_attends_7 : decode cX9_attends 7 = .ok (.iaload, 1) := by decide +kernel
theorem dX9_attends_8 : decode cX9_attends 8 = .ok (.putfield 40, 3) := by decide +kernel
theorem dX9_attends_11 : decode cX9_attends 11 = .ok (.aload_n 0, 1) := by decide +kernel
theorem dX9_attends_12 : decode cX9_attends 12 = .ok (.getfield 9, 3) := by decide +kernel
theorem dX9_attends_15 : decode cX9_attends 15 = .ok (.bipush 11, 2) := by decide +kernel
theorem dX9_attends_17 : decode cX9_attends 17 = .ok (.iload_n 1, 1) := by decide +kernel
theorem dX9_attends_18 : decode cX9_attends 18 = .ok (.ifCond .le 7, 3) := by decide +kernel
theorem dX9_attends_21 : decode cX9_attends 21 = .ok (.iconst 1, 1) := by decide +kernel
theorem dX9_attends_22 : decode cX9_attends 22 = .ok (.goto 4, 3) := by decide +kernel
theorem dX9_attends_25 : decode cX9_attends 25 = .ok (.iconst 0, 1) := by decide +kernel
theorem dX9_attends_26 : decode cX9_attends 26 = .ok (.iastore, 1) := by decide +kernel
theorem dX9_attends_27 : decode cX9_attends 27 = .ok (.iconst 0, 1) := by decide +kernel
theorem dX9_attends_28 : decode cX9_attends 28 = .ok (.ireturn, 1) := by decide +kernel
theorem dX9_setAttendant_0 : decode cX9_setAttendant 0 = .ok (.aload_n 0, 1) := by decide +kernel
theorem dX9_setAttendant_1 : decode cX9_setAttendant 1 = .ok (.invokevirtual 67, 3) := by decide +kernel
theorem dX9_setAttendant_4 : decode cX9_setAttendant 4 = .ok (.aload_n 0, 1) := by decide +kernel
theorem dX9_setAttendant_5 : decode cX9_setAttendant 5 = .ok (.aload_n 0, 1) := by decide +kernel
theorem dX9_setAttendant_6 : decode cX9_setAttendant 6 = .ok (.iload_n 1, 1) := by decide +kernel
theorem dX9_setAttendant_7 : decode cX9_setAttendant 7 = .ok (.ifCond .eq 7, 3) := by decide +kernel
theorem dX9_setAttendant_10 : decode cX9_setAttendant 10 = .ok (.iconst 1, 1) := by decide +kernel
theorem dX9_setAttendant_11 : decode cX9_setAttendant 11 = .ok (.goto 4, 3) := by decide +kernel
theorem dX9_setAttendant_14 : decode cX9_setAttendant 14 = .ok (.iconst 0, 1) := by decide +kernel
theorem dX9_setAttendant_15 : decode cX9_setAttendant 15 = .ok (.invokevirtual 134, 3) := by decide +kernel
theorem dX9_setAttendant_18 : decode cX9_setAttendant 18 = .ok (.iconst 0, 1) := by decide +kernel
theorem dX9_setAttendant_19 : decode cX9_setAttendant 19 = .ok (.iconst 0, 1) := by decide +kernel
theorem dX9_setAttendant_20 : decode cX9_setAttendant 20 = .ok (.iconst 0, 1) := by decide +kernel
theorem dX9_setAttendant_21 : decode cX9_setAttendant 21 = .ok (.iconst 0, 1) := by decide +kernel
theorem dX9_setAttendant_22 : decode cX9_setAttendant 22 = .ok (.invokevirtual 73, 3) := by decide +kernel
theorem dX9_setAttendant_25 : decode cX9_setAttendant 25 = .ok (.iconst 1, 1) := by decide +kernel
theorem dX9_setAttendant_26 : decode cX9_setAttendant 26 = .ok (.if_icmp .ne 7, 3) := by decide +kernel
theorem dX9_setAttendant_29 : decode cX9_setAttendant 29 = .ok (.iconst 1, 1) := by decide +kernel
theorem dX9_setAttendant_30 : decode cX9_setAttendant 30 = .ok (.goto 4, 3) := by decide +kernel
theorem dX9_setAttendant_33 : decode cX9_setAttendant 33 = .ok (.iconst 0, 1) := by decide +kernel
theorem dX9_setAttendant_34 : decode cX9_setAttendant 34 = .ok (.ireturn, 1) := by decide +kernel
theorem dX9_passes_0 : decode cX9_passes 0 = .ok (.iload_n 1, 1) := by decide +kernel
theorem dX9_passes_1 : decode cX9_passes 1 = .ok (.iconst 1, 1) := by decide +kernel
theorem dX9_passes_2 : decode cX9_passes 2 = .ok (.bipush 120, 2) := by decide +kernel
theorem dX9_passes_4 : decode cX9_passes 4 = .ok (.invokestatic 44, 3) := by decide +kernel
theorem dX9_passes_7 : decode cX9_passes 7 = .ok (.ifCond .ne 5, 3) := by decide +kernel
theorem dX9_passes_10 : decode cX9_passes 10 = .ok (.iconst 2, 1) := by decide +kernel
theorem dX9_passes_11 : decode cX9_passes 11 = .ok (.ireturn, 1) := by decide +kernel
theorem dX9_passes_12 : decode cX9_passes 12 = .ok (.aload_n 0, 1) := by decide +kernel
theorem dX9_passes_13 : decode cX9_passes 13 = .ok (.iconst 0, 1) := by decide +kernel
theorem dX9_passes_14 : decode cX9_passes 14 = .ok (.putfield 40, 3) := by decide +kernel
theorem dX9_passes_17 : decode cX9_passes 17 = .ok (.iconst 0, 1) := by decide +kernel
theorem dX9_passes_18 : decode cX9_passes 18 = .ok (.istore_n 2, 1) := by decide +kernel
theorem dX9_passes_19 : decode cX9_passes 19 = .ok (.iload_n 2, 1) := by decide +kernel
theorem dX9_passes_20 : decode cX9_passes 20 = .ok (.iload_n 1, 1) := by decide +kernel
theorem dX9_passes_21 : decode cX9_passes 21 = .ok (.if_icmp .ge 51, 3) := by decide +kernel
theorem dX9_passes_24 : decode cX9_passes 24 = .ok (.aload_n 0, 1) := by decide +kernel
theorem dX9_passes_25 : decode cX9_passes 25 = .ok (.getfield 9, 3) := by decide +kernel
theorem dX9_passes_28 : decode cX9_passes 28 = .ok (.iconst 0, 1) := by decide +kernel
theorem dX9_passes_29 : decode cX9_passes 29 = .ok (.dup2, 1) := by decide +kernel
theorem dX9_passes_30 : decode cX9_passes 30 = .ok (.iaload, 1) := by decide +kernel
theorem dX9_passes_31 : decode cX9_passes 31 = .ok (.iconst 1, 1) := by decide +kernel
theorem dX9_passes_32 : decode cX9_passes 32 = .ok (.iadd, 1) := by decide +kernel
theorem dX9_passes_33 : decode cX9_passes 33 = .ok (.iastore, 1) := by decide +kernel
theorem dX9_passes_34 : decode cX9_passes 34 = .ok (.iconst 0, 1) := by decide +kernel
theorem dX9_passes_35 : decode cX9_passes 35 = .ok (.istore_n 3, 1) := by decide +kernel
theorem dX9_passes_36 : decode cX9_passes 36 = .ok (.iload_n 3, 1) := by decide +kernel
theorem dX9_passes_37 : decode cX9_passes 37 = .ok (.aload_n 0, 1) := by decide +kernel
theorem dX9_passes_38 : decode cX9_passes 38 = .ok (.getfield 9, 3) := by decide +kernel
theorem dX9_passes_41 : decode cX9_passes 41 = .ok (.iconst 1, 1) := by decide +kernel
theorem dX9_passes_42 : decode cX9_passes 42 = .ok (.iaload, 1) := by decide +kernel
theorem dX9_passes_43 : decode cX9_passes 43 = .ok (.if_icmp .ge 23, 3) := by decide +kernel
theorem dX9_passes_46 : decode cX9_passes 46 = .ok (.aload_n 0, 1) := by decide +kernel
theorem dX9_passes_47 : decode cX9_passes 47 = .ok (.dup, 1) := by decide +kernel
theorem dX9_passes_48 : decode cX9_passes 48 = .ok (.getfield 40, 3) := by decide +kernel
theorem dX9_passes_51 : decode cX9_passes 51 = .ok (.aload_n 0, 1) := by decide +kernel
theorem dX9_passes_52 : decode cX9_passes 52 = .ok (.iload_n 3, 1) := by decide +kernel
theorem dX9_passes_53 : decode cX9_passes 53 = .ok (.invokevirtual 137, 3) := by decide +kernel
theorem dX9_passes_56 : decode cX9_passes 56 = .ok (.iadd, 1) := by decide +kernel
theorem dX9_passes_57 : decode cX9_passes 57 = .ok (.putfield 40, 3) := by decide +kernel
theorem dX9_passes_60 : decode cX9_passes 60 = .ok (.iinc 3 1, 3) := by decide +kernel
theorem dX9_passes_63 : decode cX9_passes 63 = .ok (.goto (-27), 3) := by decide +kernel
theorem dX9_passes_66 : decode cX9_passes 66 = .ok (.iinc 2 1, 3) := by decide +kernel
theorem dX9_passes_69 : decode cX9_passes 69 = .ok (.goto (-50), 3) := by decide +kernel
theorem dX9_passes_72 : decode cX9_passes 72 = .ok (.iconst 0, 1) := by decide +kernel
theorem dX9_passes_73 : decode cX9_passes 73 = .ok (.ireturn, 1) := by decide +kernel
theorem dX9_pass_0 : decode cX9_pass 0 = .ok (.aload_n 0, 1) := by decide +kernel
theorem dX9_pass_1 : decode cX9_pass 1 = .ok (.invokevirtual 67, 3) := by decide +kernel
theorem dX9_pass_4 : decode cX9_pass 4 = .ok (.aload_n 0, 1) := by decide +kernel
theorem dX9_pass_5 : decode cX9_pass 5 = .ok (.aload_n 0, 1) := by decide +kernel
theorem dX9_pass_6 : decode cX9_pass 6 = .ok (.iload_n 1, 1) := by decide +kernel
theorem dX9_pass_7 : decode cX9_pass 7 = .ok (.invokevirtual 140, 3) := by decide +kernel
theorem dX9_pass_10 : decode cX9_pass 10 = .ok (.iconst 0, 1) := by decide +kernel
theorem dX9_pass_11 : decode cX9_pass 11 = .ok (.iconst 1, 1) := by decide +kernel
theorem dX9_pass_12 : decode cX9_pass 12 = .ok (.iconst 0, 1) := by decide +kernel
theorem dX9_pass_13 : decode cX9_pass 13 = .ok (.iconst 0, 1) := by decide +kernel
theorem dX9_pass_14 : decode cX9_pass 14 = .ok (.invokevirtual 73, 3) := by decide +kernel
theorem dX9_pass_17 : decode cX9_pass 17 = .ok (.ireturn, 1) := by decide +kernel
theorem dX9_closes_0 : decode cX9_closes 0 = .ok (.aload_n 0, 1) := by decide +kernel
theorem dX9_closes_1 : decode cX9_closes 1 = .ok (.getfield 9, 3) := by decide +kernel
theorem dX9_closes_4 : decode cX9_closes 4 = .ok (.bipush 13, 2) := by decide +kernel
theorem dX9_closes_6 : decode cX9_closes 6 = .ok (.iaload, 1) := by decide +kernel
theorem dX9_closes_7 : decode cX9_closes 7 = .ok (.bipush 14, 2) := by decide +kernel
theorem dX9_closes_9 : decode cX9_closes 9 = .ok (.if_icmp .ne 5, 3) := by decide +kernel
theorem dX9_closes_12 : decode cX9_closes 12 = .ok (.iconst 3, 1) := by decide +kernel
theorem dX9_closes_13 : decode cX9_closes 13 = .ok (.ireturn, 1) := by decide +kernel
theorem dX9_closes_14 : decode cX9_closes 14 = .ok (.aload_n 0, 1) := by decide +kernel
theorem dX9_closes_15 : decode cX9_closes 15 = .ok (.aload_n 0, 1) := by decide +kernel
theorem dX9_closes_16 : decode cX9_closes 16 = .ok (.getfield 9, 3) := by decide +kernel
theorem dX9_closes_19 : decode cX9_closes 19 = .ok (.bipush 12, 2) := by decide +kernel
theorem dX9_closes_21 : decode cX9_closes 21 = .ok (.iaload, 1) := by decide +kernel
theorem dX9_closes_22 : decode cX9_closes 22 = .ok (.putfield 40, 3) := by decide +kernel
theorem dX9_closes_25 : decode cX9_closes 25 = .ok (.aload_n 0, 1) := by decide +kernel
theorem dX9_closes_26 : decode cX9_closes 26 = .ok (.getfield 9, 3) := by decide +kernel
theorem dX9_closes_29 : decode cX9_closes 29 = .ok (.bipush 19, 2) := by decide +kernel
theorem dX9_closes_31 : decode cX9_closes 31 = .ok (.aload_n 0, 1) := by decide +kernel
theorem dX9_closes_32 : decode cX9_closes 32 = .ok (.getfield 9, 3) := by decide +kernel
theorem dX9_closes_35 : decode cX9_closes 35 = .ok (.bipush 13, 2) := by decide +kernel
theorem dX9_closes_37 : decode cX9_closes 37 = .ok (.iaload, 1) := by decide +kernel
theorem dX9_closes_38 : decode cX9_closes 38 = .ok (.iadd, 1) := by decide +kernel
theorem dX9_closes_39 : decode cX9_closes 39 = .ok (.aload_n 0, 1) := by decide +kernel
theorem dX9_closes_40 : decode cX9_closes 40 = .ok (.getfield 40, 3) := by decide +kernel
theorem dX9_closes_43 : decode cX9_closes 43 = .ok (.iastore, 1) := by decide +kernel
theorem dX9_closes_44 : decode cX9_closes 44 = .ok (.aload_n 0, 1) := by decide +kernel
theorem dX9_closes_45 : decode cX9_closes 45 = .ok (.getfield 9, 3) := by decide +kernel
theorem dX9_closes_48 : decode cX9_closes 48 = .ok (.bipush 13, 2) := by decide +kernel
theorem dX9_closes_50 : decode cX9_closes 50 = .ok (.dup2, 1) := by decide +kernel
theorem dX9_closes_51 : decode cX9_closes 51 = .ok (.iaload, 1) := by decide +kernel
theorem dX9_closes_52 : decode cX9_closes 52 = .ok (.iconst 1, 1) := by decide +kernel
theorem dX9_closes_53 : decode cX9_closes 53 = .ok (.iadd, 1) := by decide +kernel
theorem dX9_closes_54 : decode cX9_closes 54 = .ok (.iastore, 1) := by decide +kernel
theorem dX9_closes_55 : decode cX9_closes 55 = .ok (.aload_n 0, 1) := by decide +kernel
theorem dX9_closes_56 : decode cX9_closes 56 = .ok (.getfield 9, 3) := by decide +kernel
theorem dX9_closes_59 : decode cX9_closes 59 = .ok (.bipush 12, 2) := by decide +kernel
theorem dX9_closes_61 : decode cX9_closes 61 = .ok (.iconst 0, 1) := by decide +kernel
theorem dX9_closes_62 : decode cX9_closes 62 = .ok (.iastore, 1) := by decide +kernel
theorem dX9_closes_63 : decode cX9_closes 63 = .ok (.iconst 0, 1) := by decide +kernel
theorem dX9_closes_64 : decode cX9_closes 64 = .ok (.ireturn, 1) := by decide +kernel
theorem dX9_closeNight_0 : decode cX9_closeNight 0 = .ok (.aload_n 0, 1) := by decide +kernel
theorem dX9_closeNight_1 : decode cX9_closeNight 1 = .ok (.invokevirtual 67, 3) := by decide +kernel
theorem dX9_closeNight_4 : decode cX9_closeNight 4 = .ok (.aload_n 0, 1) := by decide +kernel
theorem dX9_closeNight_5 : decode cX9_closeNight 5 = .ok (.aload_n 0, 1) := by decide +kernel
theorem dX9_closeNight_6 : decode cX9_closeNight 6 = .ok (.invokevirtual 143, 3) := by decide +kernel
theorem dX9_closeNight_9 : decode cX9_closeNight 9 = .ok (.iconst 0, 1) := by decide +kernel
theorem dX9_closeNight_10 : decode cX9_closeNight 10 = .ok (.iconst 0, 1) := by decide +kernel
theorem dX9_closeNight_11 : decode cX9_closeNight 11 = .ok (.iconst 1, 1) := by decide +kernel
theorem dX9_closeNight_12 : decode cX9_closeNight 12 = .ok (.iconst 0, 1) := by decide +kernel
theorem dX9_closeNight_13 : decode cX9_closeNight 13 = .ok (.invokevirtual 73, 3) := by decide +kernel
theorem dX9_closeNight_16 : decode cX9_closeNight 16 = .ok (.invokestatic 128, 3) := by decide +kernel
theorem dX9_closeNight_19 : decode cX9_closeNight 19 = .ok (.freturn, 1) := by decide +kernel
theorem dX9_told_0 : decode cX9_told 0 = .ok (.aload_n 0, 1) := by decide +kernel
theorem dX9_told_1 : decode cX9_told 1 = .ok (.iconst 0, 1) := by decide +kernel
theorem dX9_told_2 : decode cX9_told 2 = .ok (.putfield 30, 3) := by decide +kernel
theorem dX9_told_5 : decode cX9_told 5 = .ok (.aload_n 0, 1) := by decide +kernel
theorem dX9_told_6 : decode cX9_told 6 = .ok (.getfield 9, 3) := by decide +kernel
theorem dX9_told_9 : decode cX9_told 9 = .ok (.iload_n 1, 1) := by decide +kernel
theorem dX9_told_10 : decode cX9_told 10 = .ok (.iaload, 1) := by decide +kernel
theorem dX9_told_11 : decode cX9_told 11 = .ok (.ireturn, 1) := by decide +kernel
theorem dX9_kettleCount_0 : decode cX9_kettleCount 0 = .ok (.aload_n 0, 1) := by decide +kernel
theorem dX9_kettleCount_1 : decode cX9_kettleCount 1 = .ok (.iconst 1, 1) := by decide +kernel
theorem dX9_kettleCount_2 : decode cX9_kettleCount 2 = .ok (.invokevirtual 146, 3) := by decide +kernel
theorem dX9_kettleCount_5 : decode cX9_kettleCount 5 = .ok (.ireturn, 1) := by decide +kernel
theorem dX9_ofKettle_0 : decode cX9_ofKettle 0 = .ok (.aload_n 0, 1) := by decide +kernel
theorem dX9_ofKettle_1 : decode cX9_ofKettle 1 = .ok (.aload_n 0, 1) := by decide +kernel
theorem dX9_ofKettle_2 : decode cX9_ofKettle 2 = .ok (.iload_n 1, 1) := by decide +kernel
theorem dX9_ofKettle_3 : decode cX9_ofKettle 3 = .ok (.invokevirtual 77, 3) := by decide +kernel
theorem dX9_ofKettle_6 : decode cX9_ofKettle 6 = .ok (.invokevirtual 149, 3) := by decide +kernel
theorem dX9_ofKettle_9 : decode cX9_ofKettle 9 = .ok (.ifCond .eq 12, 3) := by decide +kernel
theorem dX9_ofKettle_12 : decode cX9_ofKettle 12 = .ok (.aload_n 0, 1) := by decide +kernel
theorem dX9_ofKettle_13 : decode cX9_ofKettle 13 = .ok (.iload_n 1, 1) := by decide +kernel
theorem dX9_ofKettle_14 : decode cX9_ofKettle 14 = .ok (.iload_n 2, 1) := by decide +kernel
theorem dX9_ofKettle_15 : decode cX9_ofKettle 15 = .ok (.invokevirtual 60, 3) := by decide +kernel
theorem dX9_ofKettle_18 : decode cX9_ofKettle 18 = .ok (.goto 4, 3) := by decide +kernel
theorem dX9_ofKettle_21 : decode cX9_ofKettle 21 = .ok (.iconst 0, 1) := by decide +kernel
theorem dX9_ofKettle_22 : decode cX9_ofKettle 22 = .ok (.ireturn, 1) := by decide +kernel
theorem dX9_capacity_0 : decode cX9_capacity 0 = .ok (.aload_n 0, 1) := by decide +kernel
theorem dX9_capacity_1 : decode cX9_capacity 1 = .ok (.iload_n 1, 1) := by decide +kernel
theorem dX9_capacity_2 : decode cX9_capacity 2 = .ok (.iconst 0, 1) := by decide +kernel
theorem dX9_capacity_3 : decode cX9_capacity 3 = .ok (.invokevirtual 153, 3) := by decide +kernel
theorem dX9_capacity_6 : decode cX9_capacity 6 = .ok (.invokestatic 128, 3) := by decide +kernel
theorem dX9_capacity_9 : decode cX9_capacity 9 = .ok (.freturn, 1) := by decide +kernel
theorem dX9_volume_0 : decode cX9_volume 0 = .ok (.aload_n 0, 1) := by decide +kernel
theorem dX9_volume_1 : decode cX9_volume 1 = .ok (.iload_n 1, 1) := by decide +kernel
theorem dX9_volume_2 : decode cX9_volume 2 = .ok (.iconst 1, 1) := by decide +kernel
theorem dX9_volume_3 : decode cX9_volume 3 = .ok (.invokevirtual 153, 3) := by decide +kernel
theorem dX9_volume_6 : decode cX9_volume 6 = .ok (.invokestatic 128, 3) := by decide +kernel
theorem dX9_volume_9 : decode cX9_volume 9 = .ok (.freturn, 1) := by decide +kernel
theorem dX9_temperature_0 : decode cX9_temperature 0 = .ok (.aload_n 0, 1) := by decide +kernel
theorem dX9_temperature_1 : decode cX9_temperature 1 = .ok (.iload_n 1, 1) := by decide +kernel
theorem dX9_temperature_2 : decode cX9_temperature 2 = .ok (.iconst 2, 1) := by decide +kernel
theorem dX9_temperature_3 : decode cX9_temperature 3 = .ok (.invokevirtual 153, 3) := by decide +kernel
theorem dX9_temperature_6 : decode cX9_temperature 6 = .ok (.invokestatic 84, 3) := by decide +kernel
theorem dX9_temperature_9 : decode cX9_temperature 9 = .ok (.freturn, 1) := by decide +kernel
theorem dX9_temperatureBits_0 : decode cX9_temperatureBits 0 = .ok (.aload_n 0, 1) := by decide +kernel
theorem dX9_temperatureBits_1 : decode cX9_temperatureBits 1 = .ok (.aload_n 0, 1) := by decide +kernel
theorem dX9_temperatureBits_2 : decode cX9_temperatureBits 2 = .ok (.iload_n 1, 1) := by decide +kernel
theorem dX9_temperatureBits_3 : decode cX9_temperatureBits 3 = .ok (.invokevirtual 77, 3) := by decide +kernel
theorem dX9_temperatureBits_6 : decode cX9_temperatureBits 6 = .ok (.invokevirtual 149, 3) := by decide +kernel
theorem dX9_temperatureBits_9 : decode cX9_temperatureBits 9 = .ok (.ifCond .eq 18, 3) := by decide +kernel
theorem dX9_temperatureBits_12 : decode cX9_temperatureBits 12 = .ok (.aload_n 0, 1) := by decide +kernel
theorem dX9_temperatureBits_13 : decode cX9_temperatureBits 13 = .ok (.iload_n 1, 1) := by decide +kernel
theorem dX9_temperatureBits_14 : decode cX9_temperatureBits 14 = .ok (.iconst 2, 1) := by decide +kernel
theorem dX9_temperatureBits_15 : decode cX9_temperatureBits 15 = .ok (.invokevirtual 60, 3) := by decide +kernel
theorem dX9_temperatureBits_18 : decode cX9_temperatureBits 18 = .ok (.invokestatic 84, 3) := by decide +kernel
theorem dX9_temperatureBits_21 : decode cX9_temperatureBits 21 = .ok (.invokestatic 156, 3) := by decide +kernel
theorem dX9_temperatureBits_24 : decode cX9_temperatureBits 24 = .ok (.goto 4, 3) := by decide +kernel
theorem dX9_temperatureBits_27 : decode cX9_temperatureBits 27 = .ok (.iconst 0, 1) := by decide +kernel
theorem dX9_temperatureBits_28 : decode cX9_temperatureBits 28 = .ok (.ireturn, 1) := by decide +kernel
theorem dX9_burner_0 : decode cX9_burner 0 = .ok (.aload_n 0, 1) := by decide +kernel
theorem dX9_burner_1 : decode cX9_burner 1 = .ok (.iload_n 1, 1) := by decide +kernel
theorem dX9_burner_2 : decode cX9_burner 2 = .ok (.iconst 3, 1) := by decide +kernel
theorem dX9_burner_3 : decode cX9_burner 3 = .ok (.invokevirtual 153, 3) := by decide +kernel
theorem dX9_burner_6 : decode cX9_burner 6 = .ok (.ireturn, 1) := by decide +kernel
theorem dX9_isBoiling_0 : decode cX9_isBoiling 0 = .ok (.aload_n 0, 1) := by decide +kernel
theorem dX9_isBoiling_1 : decode cX9_isBoiling 1 = .ok (.iload_n 1, 1) := by decide +kernel
theorem dX9_isBoiling_2 : decode cX9_isBoiling 2 = .ok (.iconst 4, 1) := by decide +kernel
theorem dX9_isBoiling_3 : decode cX9_isBoiling 3 = .ok (.invokevirtual 153, 3) := by decide +kernel
theorem dX9_isBoiling_6 : decode cX9_isBoiling 6 = .ok (.iconst 1, 1) := by decide +kernel
theorem dX9_isBoiling_7 : decode cX9_isBoiling 7 = .ok (.if_icmp .ne 7, 3) := by decide +kernel
theorem dX9_isBoiling_10 : decode cX9_isBoiling 10 = .ok (.iconst 1, 1) := by decide +kernel
theorem dX9_isBoiling_11 : decode cX9_isBoiling 11 = .ok (.goto 4, 3) := by decide +kernel
theorem dX9_isBoiling_14 : decode cX9_isBoiling 14 = .ok (.iconst 0, 1) := by decide +kernel
theorem dX9_isBoiling_15 : decode cX9_isBoiling 15 = .ok (.ireturn, 1) := by decide +kernel
theorem dX9_minutesUntilBoiling_0 : decode cX9_minutesUntilBoiling 0 = .ok (.aload_n 0, 1) := by decide +kernel
theorem dX9_minutesUntilBoiling_1 : decode cX9_minutesUntilBoiling 1 = .ok (.aload_n 0, 1) := by decide +kernel
theorem dX9_minutesUntilBoiling_2 : decode cX9_minutesUntilBoiling 2 = .ok (.iload_n 1, 1) := by decide +kernel
theorem dX9_minutesUntilBoiling_3 : decode cX9_minutesUntilBoiling 3 = .ok (.invokevirtual 77, 3) := by decide +kernel
theorem dX9_minutesUntilBoiling_6 : decode cX9_minutesUntilBoiling 6 = .ok (.ifCond .ne 7, 3) := by decide +kernel
theorem dX9_minutesUntilBoiling_9 : decode cX9_minutesUntilBoiling 9 = .ok (.iconst 1, 1) := by decide +kernel
theorem dX9_minutesUntilBoiling_10 : decode cX9_minutesUntilBoiling 10 = .ok (.goto 26, 3) := by decide +kernel
theorem dX9_minutesUntilBoiling_13 : decode cX9_minutesUntilBoiling 13 = .ok (.aload_n 0, 1) := by decide +kernel
theorem dX9_minutesUntilBoiling_14 : decode cX9_minutesUntilBoiling 14 = .ok (.iload_n 1, 1) := by decide +kernel
theorem dX9_minutesUntilBoiling_15 : decode cX9_minutesUntilBoiling 15 = .ok (.iconst 1, 1) := by decide +kernel
theorem dX9_minutesUntilBoiling_16 : decode cX9_minutesUntilBoiling 16 = .ok (.invokevirtual 60, 3) := by decide +kernel
theorem dX9_minutesUntilBoiling_19 : decode cX9_minutesUntilBoiling 19 = .ok (.ifCond .eq 12, 3) := by decide +kernel
theorem dX9_minutesUntilBoiling_22 : decode cX9_minutesUntilBoiling 22 = .ok (.aload_n 0, 1) := by decide +kernel
theorem dX9_minutesUntilBoiling_23 : decode cX9_minutesUntilBoiling 23 = .ok (.iload_n 1, 1) := by decide +kernel
theorem dX9_minutesUntilBoiling_24 : decode cX9_minutesUntilBoiling 24 = .ok (.iconst 3, 1) := by decide +kernel
theorem dX9_minutesUntilBoiling_25 : decode cX9_minutesUntilBoiling 25 = .ok (.invokevirtual 60, 3) := by decide +kernel
theorem dX9_minutesUntilBoiling_28 : decode cX9_minutesUntilBoiling 28 = .ok (.ifCond .ne 7, 3) := by decide +kernel
theorem dX9_minutesUntilBoiling_31 : decode cX9_minutesUntilBoiling 31 = .ok (.iconst 2, 1) := by decide +kernel
theorem dX9_minutesUntilBoiling_32 : decode cX9_minutesUntilBoiling 32 = .ok (.goto 4, 3) := by decide +kernel
theorem dX9_minutesUntilBoiling_35 : decode cX9_minutesUntilBoiling 35 = .ok (.iconst 0, 1) := by decide +kernel
theorem dX9_minutesUntilBoiling_36 : decode cX9_minutesUntilBoiling 36 = .ok (.putfield 30, 3) := by decide +kernel
theorem dX9_minutesUntilBoiling_39 : decode cX9_minutesUntilBoiling 39 = .ok (.aload_n 0, 1) := by decide +kernel
theorem dX9_minutesUntilBoiling_40 : decode cX9_minutesUntilBoiling 40 = .ok (.getfield 30, 3) := by decide +kernel
theorem dX9_minutesUntilBoiling_43 : decode cX9_minutesUntilBoiling 43 = .ok (.ifCond .eq 5, 3) := by decide +kernel
theorem dX9_minutesUntilBoiling_46 : decode cX9_minutesUntilBoiling 46 = .ok (.iconst 0, 1) := by decide +kernel
theorem dX9_minutesUntilBoiling_47 : decode cX9_minutesUntilBoiling 47 = .ok (.ireturn, 1) := by decide +kernel
theorem dX9_minutesUntilBoiling_48 : decode cX9_minutesUntilBoiling 48 = .ok (.iconst 3, 1) := by decide +kernel
theorem dX9_minutesUntilBoiling_49 : decode cX9_minutesUntilBoiling 49 = .ok (.aload_n 0, 1) := by decide +kernel
theorem dX9_minutesUntilBoiling_50 : decode cX9_minutesUntilBoiling 50 = .ok (.iload_n 1, 1) := by decide +kernel
theorem dX9_minutesUntilBoiling_51 : decode cX9_minutesUntilBoiling 51 = .ok (.iconst 3, 1) := by decide +kernel
theorem dX9_minutesUntilBoiling_52 : decode cX9_minutesUntilBoiling 52 = .ok (.invokevirtual 60, 3) := by decide +kernel
theorem dX9_minutesUntilBoiling_55 : decode cX9_minutesUntilBoiling 55 = .ok (.imul, 1) := by decide +kernel
theorem dX9_minutesUntilBoiling_56 : decode cX9_minutesUntilBoiling 56 = .ok (.iconst 1, 1) := by decide +kernel
theorem dX9_minutesUntilBoiling_57 : decode cX9_minutesUntilBoiling 57 = .ok (.isub, 1) := by decide +kernel
theorem dX9_minutesUntilBoiling_58 : decode cX9_minutesUntilBoiling 58 = .ok (.istore_n 2, 1) := by decide +kernel
theorem dX9_minutesUntilBoiling_59 : decode cX9_minutesUntilBoiling 59 = .ok (.sipush 200, 3) := by decide +kernel
theorem dX9_minutesUntilBoiling_62 : decode cX9_minutesUntilBoiling 62 = .ok (.aload_n 0, 1) := by decide +kernel
theorem dX9_minutesUntilBoiling_63 : decode cX9_minutesUntilBoiling 63 = .ok (.iload_n 1, 1) := by decide +kernel
theorem dX9_minutesUntilBoiling_64 : decode cX9_minutesUntilBoiling 64 = .ok (.iconst 2, 1) := by decide +kernel
theorem dX9_minutesUntilBoiling_65 : decode cX9_minutesUntilBoiling 65 = .ok (.invokevirtual 60, 3) := by decide +kernel
theorem dX9_minutesUntilBoiling_68 : decode cX9_minutesUntilBoiling 68 = .ok (.isub, 1) := by decide +kernel
theorem dX9_minutesUntilBoiling_69 : decode cX9_minutesUntilBoiling 69 = .ok (.iload_n 2, 1) := by decide +kernel
theorem dX9_minutesUntilBoiling_70 : decode cX9_minutesUntilBoiling 70 = .ok (.iadd, 1) := by decide +kernel
theorem dX9_minutesUntilBoiling_71 : decode cX9_minutesUntilBoiling 71 = .ok (.iconst 1, 1) := by decide +kernel
theorem dX9_minutesUntilBoiling_72 : decode cX9_minutesUntilBoiling 72 = .ok (.isub, 1) := by decide +kernel
theorem dX9_minutesUntilBoiling_73 : decode cX9_minutesUntilBoiling 73 = .ok (.iload_n 2, 1) := by decide +kernel
theorem dX9_minutesUntilBoiling_74 : decode cX9_minutesUntilBoiling 74 = .ok (.idiv, 1) := by decide +kernel
theorem dX9_minutesUntilBoiling_75 : decode cX9_minutesUntilBoiling 75 = .ok (.istore_n 3, 1) := by decide +kernel
theorem dX9_minutesUntilBoiling_76 : decode cX9_minutesUntilBoiling 76 = .ok (.iload_n 3, 1) := by decide +kernel
theorem dX9_minutesUntilBoiling_77 : decode cX9_minutesUntilBoiling 77 = .ok (.iconst 1, 1) := by decide +kernel
theorem dX9_minutesUntilBoiling_78 : decode cX9_minutesUntilBoiling 78 = .ok (.if_icmp .ge 7, 3) := by decide +kernel
theorem dX9_minutesUntilBoiling_81 : decode cX9_minutesUntilBoiling 81 = .ok (.iconst 1, 1) := by decide +kernel
theorem dX9_minutesUntilBoiling_82 : decode cX9_minutesUntilBoiling 82 = .ok (.goto 4, 3) := by decide +kernel
theorem dX9_minutesUntilBoiling_85 : decode cX9_minutesUntilBoiling 85 = .ok (.iload_n 3, 1) := by decide +kernel
theorem dX9_minutesUntilBoiling_86 : decode cX9_minutesUntilBoiling 86 = .ok (.ireturn, 1) := by decide +kernel
theorem dX9_minutesUntilBoilingByMinutes_0 : decode cX9_minutesUntilBoilingByMinutes 0 = .ok (.aload_n 0, 1) := by decide +kernel
theorem dX9_minutesUntilBoilingByMinutes_1 : decode cX9_minutesUntilBoilingByMinutes 1 = .ok (.iload_n 1, 1) := by decide +kernel
theorem dX9_minutesUntilBoilingByMinutes_2 : decode cX9_minutesUntilBoilingByMinutes 2 = .ok (.invokevirtual 162, 3) := by decide +kernel
theorem dX9_minutesUntilBoilingByMinutes_5 : decode cX9_minutesUntilBoilingByMinutes 5 = .ok (.ireturn, 1) := by decide +kernel
theorem dX9_kettleByTemperature_0 : decode cX9_kettleByTemperature 0 = .ok (.iconst 0, 1) := by decide +kernel
theorem dX9_kettleByTemperature_1 : decode cX9_kettleByTemperature 1 = .ok (.istore_n 2, 1) := by decide +kernel
theorem dX9_kettleByTemperature_2 : decode cX9_kettleByTemperature 2 = .ok (.iload_n 2, 1) := by decide +kernel
theorem dX9_kettleByTemperature_3 : decode cX9_kettleByTemperature 3 = .ok (.aload_n 0, 1) := by decide +kernel
theorem dX9_kettleByTemperature_4 : decode cX9_kettleByTemperature 4 = .ok (.getfield 9, 3) := by decide +kernel
theorem dX9_kettleByTemperature_7 : decode cX9_kettleByTemperature 7 = .ok (.iconst 1, 1) := by decide +kernel
theorem dX9_kettleByTemperature_8 : decode cX9_kettleByTemperature 8 = .ok (.iaload, 1) := by decide +kernel
theorem dX9_kettleByTemperature_9 : decode cX9_kettleByTemperature 9 = .ok (.if_icmp .ge 116, 3) := by decide +kernel
theorem dX9_kettleByTemperature_12 : decode cX9_kettleByTemperature 12 = .ok (.iconst 0, 1) := by decide +kernel
theorem dX9_kettleByTemperature_13 : decode cX9_kettleByTemperature 13 = .ok (.istore_n 3, 1) := by decide +kernel
theorem dX9_kettleByTemperature_14 : decode cX9_kettleByTemperature 14 = .ok (.iconst 0, 1) := by decide +kernel
theorem dX9_kettleByTemperature_15 : decode cX9_kettleByTemperature 15 = .ok (.istore 4, 2) := by decide +kernel
theorem dX9_kettleByTemperature_17 : decode cX9_kettleByTemperature 17 = .ok (.iload 4, 2) := by decide +kernel
theorem dX9_kettleByTemperature_19 : decode cX9_kettleByTemperature 19 = .ok (.aload_n 0, 1) := by decide +kernel
theorem dX9_kettleByTemperature_20 : decode cX9_kettleByTemperature 20 = .ok (.getfield 9, 3) := by decide +kernel
theorem dX9_kettleByTemperature_23 : decode cX9_kettleByTemperature 23 = .ok (.iconst 1, 1) := by decide +kernel
theorem dX9_kettleByTemperature_24 : decode cX9_kettleByTemperature 24 = .ok (.iaload, 1) := by decide +kernel
theorem dX9_kettleByTemperature_25 : decode cX9_kettleByTemperature 25 = .ok (.if_icmp .ge 75, 3) := by decide +kernel
theorem dX9_kettleByTemperature_28 : decode cX9_kettleByTemperature 28 = .ok (.aload_n 0, 1) := by decide +kernel
theorem dX9_kettleByTemperature_29 : decode cX9_kettleByTemperature 29 = .ok (.iload 4, 2) := by decide +kernel
theorem dX9_kettleByTemperature_31 : decode cX9_kettleByTemperature 31 = .ok (.iconst 2, 1) := by decide +kernel
theorem dX9_kettleByTemperature_32 : decode cX9_kettleByTemperature 32 = .ok (.invokevirtual 60, 3) := by decide +kernel
theorem dX9_kettleByTemperature_35 : decode cX9_kettleByTemperature 35 = .ok (.aload_n 0, 1) := by decide +kernel
theorem dX9_kettleByTemperature_36 : decode cX9_kettleByTemperature 36 = .ok (.iload_n 2, 1) := by decide +kernel
theorem dX9_kettleByTemperature_37 : decode cX9_kettleByTemperature 37 = .ok (.iconst 2, 1) := by decide +kernel
theorem dX9_kettleByTemperature_38 : decode cX9_kettleByTemperature 38 = .ok (.invokevirtual 60, 3) := by decide +kernel
theorem dX9_kettleByTemperature_41 : decode cX9_kettleByTemperature 41 = .ok (.isub, 1) := by decide +kernel
theorem dX9_kettleByTemperature_42 : decode cX9_kettleByTemperature 42 = .ok (.istore 5, 2) := by decide +kernel
theorem dX9_kettleByTemperature_44 : decode cX9_kettleByTemperature 44 = .ok (.aload_n 0, 1) := by decide +kernel
theorem dX9_kettleByTemperature_45 : decode cX9_kettleByTemperature 45 = .ok (.iload 4, 2) := by decide +kernel
theorem dX9_kettleByTemperature_47 : decode cX9_kettleByTemperature 47 = .ok (.iconst 1, 1) := by decide +kernel
theorem dX9_kettleByTemperature_48 : decode cX9_kettleByTemperature 48 = .ok (.invokevirtual 60, 3) := by decide +kernel
theorem dX9_kettleByTemperature_51 : decode cX9_kettleByTemperature 51 = .ok (.aload_n 0, 1) := by decide +kernel
theorem dX9_kettleByTemperature_52 : decode cX9_kettleByTemperature 52 = .ok (.iload_n 2, 1) := by decide +kernel
theorem dX9_kettleByTemperature_53 : decode cX9_kettleByTemperature 53 = .ok (.iconst 1, 1) := by decide +kernel
theorem dX9_kettleByTemperature_54 : decode cX9_kettleByTemperature 54 = .ok (.invokevirtual 60, 3) := by decide +kernel
theorem dX9_kettleByTemperature_57 : decode cX9_kettleByTemperature 57 = .ok (.isub, 1) := by decide +kernel
theorem dX9_kettleByTemperature_58 : decode cX9_kettleByTemperature 58 = .ok (.istore 6, 2) := by decide +kernel
theorem dX9_kettleByTemperature_60 : decode cX9_kettleByTemperature 60 = .ok (.iload_n 3, 1) := by decide +kernel
theorem dX9_kettleByTemperature_61 : decode cX9_kettleByTemperature 61 = .ok (.iload 5, 2) := by decide +kernel
theorem dX9_kettleByTemperature_63 : decode cX9_kettleByTemperature 63 = .ok (.ifCond .gt 24, 3) := by decide +kernel
theorem dX9_kettleByTemperature_66 : decode cX9_kettleByTemperature 66 = .ok (.iload 5, 2) := by decide +kernel
theorem dX9_kettleByTemperature_68 : decode cX9_kettleByTemperature 68 = .ok (.ifCond .ne 23, 3) := by decide +kernel
theorem dX9_kettleByTemperature_71 : decode cX9_kettleByTemperature 71 = .ok (.iload 6, 2) := by decide +kernel
theorem dX9_kettleByTemperature_73 : decode cX9_kettleByTemperature 73 = .ok (.ifCond .gt 14, 3) := by decide +kernel
theorem dX9_kettleByTemperature_76 : decode cX9_kettleByTemperature 76 = .ok (.iload 6, 2) := by decide +kernel
theorem dX9_kettleByTemperature_78 : decode cX9_kettleByTemperature 78 = .ok (.ifCond .ne 13, 3) := by decide +kernel
theorem dX9_kettleByTemperature_81 : decode cX9_kettleByTemperature 81 = .ok (.iload 4, 2) := by decide +kernel
theorem dX9_kettleByTemperature_83 : decode cX9_kettleByTemperature 83 = .ok (.iload_n 2, 1) := by decide +kernel
theorem dX9_kettleByTemperature_84 : decode cX9_kettleByTemperature 84 = .ok (.if_icmp .ge 7, 3) := by decide +kernel
theorem dX9_kettleByTemperature_87 : decode cX9_kettleByTemperature 87 = .ok (.iconst 1, 1) := by decide +kernel
theorem dX9_kettleByTemperature_88 : decode cX9_kettleByTemperature 88 = .ok (.goto 4, 3) := by decide +kernel
theorem dX9_kettleByTemperature_91 : decode cX9_kettleByTemperature 91 = .ok (.iconst 0, 1) := by decide +kernel
theorem dX9_kettleByTemperature_92 : decode cX9_kettleByTemperature 92 = .ok (.iadd, 1) := by decide +kernel
theorem dX9_kettleByTemperature_93 : decode cX9_kettleByTemperature 93 = .ok (.istore_n 3, 1) := by decide +kernel
theorem dX9_kettleByTemperature_94 : decode cX9_kettleByTemperature 94 = .ok (.iinc 4 1, 3) := by decide +kernel
theorem dX9_kettleByTemperature_97 : decode cX9_kettleByTemperature 97 = .ok (.goto (-80), 3) := by decide +kernel
theorem dX9_kettleByTemperature_100 : decode cX9_kettleByTemperature 100 = .ok (.aload_n 0, 1) := by decide +kernel
theorem dX9_kettleByTemperature_101 : decode cX9_kettleByTemperature 101 = .ok (.iload_n 3, 1) := by decide +kernel
theorem dX9_kettleByTemperature_102 : decode cX9_kettleByTemperature 102 = .ok (.iload_n 1, 1) := by decide +kernel
theorem dX9_kettleByTemperature_103 : decode cX9_kettleByTemperature 103 = .ok (.if_icmp .ne 7, 3) := by decide +kernel
theorem dX9_kettleByTemperature_106 : decode cX9_kettleByTemperature 106 = .ok (.iconst 1, 1) := by decide +kernel
theorem dX9_kettleByTemperature_107 : decode cX9_kettleByTemperature 107 = .ok (.goto 4, 3) := by decide +kernel
theorem dX9_kettleByTemperature_110 : decode cX9_kettleByTemperature 110 = .ok (.iconst 0, 1) := by decide +kernel
theorem dX9_kettleByTemperature_111 : decode cX9_kettleByTemperature 111 = .ok (.invokevirtual 149, 3) := by decide +kernel
theorem dX9_kettleByTemperature_114 : decode cX9_kettleByTemperature 114 = .ok (.ifCond .eq 5, 3) := by decide +kernel
theorem dX9_kettleByTemperature_117 : decode cX9_kettleByTemperature 117 = .ok (.iload_n 2, 1) := by decide +kernel
theorem dX9_kettleByTemperature_118 : decode cX9_kettleByTemperature 118 = .ok (.ireturn, 1) := by decide +kernel
theorem dX9_kettleByTemperature_119 : decode cX9_kettleByTemperature 119 = .ok (.iinc 2 1, 3) := by decide +kernel
theorem dX9_kettleByTemperature_122 : decode cX9_kettleByTemperature 122 = .ok (.goto (-120), 3) := by decide +kernel
theorem dX9_kettleByTemperature_125 : decode cX9_kettleByTemperature 125 = .ok (.aload_n 0, 1) := by decide +kernel
theorem dX9_kettleByTemperature_126 : decode cX9_kettleByTemperature 126 = .ok (.iconst 1, 1) := by decide +kernel
theorem dX9_kettleByTemperature_127 : decode cX9_kettleByTemperature 127 = .ok (.putfield 30, 3) := by decide +kernel
theorem dX9_kettleByTemperature_130 : decode cX9_kettleByTemperature 130 = .ok (.iconst 0, 1) := by decide +kernel
theorem dX9_kettleByTemperature_131 : decode cX9_kettleByTemperature 131 = .ok (.ireturn, 1) := by decide +kernel
theorem dX9_waitingCount_0 : decode cX9_waitingCount 0 = .ok (.aload_n 0, 1) := by decide +kernel
theorem dX9_waitingCount_1 : decode cX9_waitingCount 1 = .ok (.iconst 2, 1) := by decide +kernel
theorem dX9_waitingCount_2 : decode cX9_waitingCount 2 = .ok (.invokevirtual 146, 3) := by decide +kernel
theorem dX9_waitingCount_5 : decode cX9_waitingCount 5 = .ok (.ireturn, 1) := by decide +kernel
theorem dX9_orderAt_0 : decode cX9_orderAt 0 = .ok (.aload_n 0, 1) := by decide +kernel
theorem dX9_orderAt_1 : decode cX9_orderAt 1 = .ok (.iload_n 1, 1) := by decide +kernel
theorem dX9_orderAt_2 : decode cX9_orderAt 2 = .ok (.invokevirtual 105, 3) := by decide +kernel
theorem dX9_orderAt_5 : decode cX9_orderAt 5 = .ok (.istore_n 2, 1) := by decide +kernel
theorem dX9_orderAt_6 : decode cX9_orderAt 6 = .ok (.aload_n 0, 1) := by decide +kernel
theorem dX9_orderAt_7 : decode cX9_orderAt 7 = .ok (.iload_n 2, 1) := by decide +kernel
theorem dX9_orderAt_8 : decode cX9_orderAt 8 = .ok (.ifCond .lt 7, 3) := by decide +kernel
theorem dX9_orderAt_11 : decode cX9_orderAt 11 = .ok (.iconst 1, 1) := by decide +kernel
theorem dX9_orderAt_12 : decode cX9_orderAt 12 = .ok (.goto 4, 3) := by decide +kernel
theorem dX9_orderAt_15 : decode cX9_orderAt 15 = .ok (.iconst 0, 1) := by decide +kernel
theorem dX9_orderAt_16 : decode cX9_orderAt 16 = .ok (.invokevirtual 149, 3) := by decide +kernel
theorem dX9_orderAt_19 : decode cX9_orderAt 19 = .ok (.ifCond .eq 12, 3) := by decide +kernel
theorem dX9_orderAt_22 : decode cX9_orderAt 22 = .ok (.aload_n 0, 1) := by decide +kernel
theorem dX9_orderAt_23 : decode cX9_orderAt 23 = .ok (.iload_n 2, 1) := by decide +kernel
theorem dX9_orderAt_24 : decode cX9_orderAt 24 = .ok (.iconst 0, 1) := by decide +kernel
theorem dX9_orderAt_25 : decode cX9_orderAt 25 = .ok (.invokevirtual 48, 3) := by decide +kernel
theorem dX9_orderAt_28 : decode cX9_orderAt 28 = .ok (.goto 4, 3) := by decide +kernel
theorem dX9_orderAt_31 : decode cX9_orderAt 31 = .ok (.iconst 0, 1) := by decide +kernel
theorem dX9_orderAt_32 : decode cX9_orderAt 32 = .ok (.ireturn, 1) := by decide +kernel
theorem dX9_positionOf_0 : decode cX9_positionOf 0 = .ok (.aload_n 0, 1) := by decide +kernel
theorem dX9_positionOf_1 : decode cX9_positionOf 1 = .ok (.iload_n 1, 1) := by decide +kernel
theorem dX9_positionOf_2 : decode cX9_positionOf 2 = .ok (.invokevirtual 95, 3) := by decide +kernel
theorem dX9_positionOf_5 : decode cX9_positionOf 5 = .ok (.istore_n 2, 1) := by decide +kernel
theorem dX9_positionOf_6 : decode cX9_positionOf 6 = .ok (.aload_n 0, 1) := by decide +kernel
theorem dX9_positionOf_7 : decode cX9_positionOf 7 = .ok (.iload_n 2, 1) := by decide +kernel
theorem dX9_positionOf_8 : decode cX9_positionOf 8 = .ok (.ifCond .lt 7, 3) := by decide +kernel
theorem dX9_positionOf_11 : decode cX9_positionOf 11 = .ok (.iconst 1, 1) := by decide +kernel
theorem dX9_positionOf_12 : decode cX9_positionOf 12 = .ok (.goto 4, 3) := by decide +kernel
theorem dX9_positionOf_15 : decode cX9_positionOf 15 = .ok (.iconst 0, 1) := by decide +kernel
theorem dX9_positionOf_16 : decode cX9_positionOf 16 = .ok (.invokevirtual 149, 3) := by decide +kernel
theorem dX9_positionOf_19 : decode cX9_positionOf 19 = .ok (.ifCond .eq 11, 3) := by decide +kernel
theorem dX9_positionOf_22 : decode cX9_positionOf 22 = .ok (.aload_n 0, 1) := by decide +kernel
theorem dX9_positionOf_23 : decode cX9_positionOf 23 = .ok (.iload_n 2, 1) := by decide +kernel
theorem dX9_positionOf_24 : decode cX9_positionOf 24 = .ok (.invokevirtual 56, 3) := by decide +kernel
theorem dX9_positionOf_27 : decode cX9_positionOf 27 = .ok (.goto 4, 3) := by decide +kernel
theorem dX9_positionOf_30 : decode cX9_positionOf 30 = .ok (.iconst 0, 1) := by decide +kernel
theorem dX9_positionOf_31 : decode cX9_positionOf 31 = .ok (.ireturn, 1) := by decide +kernel
theorem dX9_ofOrder_0 : decode cX9_ofOrder 0 = .ok (.aload_n 0, 1) := by decide +kernel
theorem dX9_ofOrder_1 : decode cX9_ofOrder 1 = .ok (.aload_n 0, 1) := by decide +kernel
theorem dX9_ofOrder_2 : decode cX9_ofOrder 2 = .ok (.iload_n 1, 1) := by decide +kernel
theorem dX9_ofOrder_3 : decode cX9_ofOrder 3 = .ok (.invokevirtual 95, 3) := by decide +kernel
theorem dX9_ofOrder_6 : decode cX9_ofOrder 6 = .ok (.ifCond .lt 7, 3) := by decide +kernel
theorem dX9_ofOrder_9 : decode cX9_ofOrder 9 = .ok (.iconst 1, 1) := by decide +kernel
theorem dX9_ofOrder_10 : decode cX9_ofOrder 10 = .ok (.goto 4, 3) := by decide +kernel
theorem dX9_ofOrder_13 : decode cX9_ofOrder 13 = .ok (.iconst 0, 1) := by decide +kernel
theorem dX9_ofOrder_14 : decode cX9_ofOrder 14 = .ok (.invokevirtual 149, 3) := by decide +kernel
theorem dX9_ofOrder_17 : decode cX9_ofOrder 17 = .ok (.ifCond .eq 16, 3) := by decide +kernel
theorem dX9_ofOrder_20 : decode cX9_ofOrder 20 = .ok (.aload_n 0, 1) := by decide +kernel
theorem dX9_ofOrder_21 : decode cX9_ofOrder 21 = .ok (.aload_n 0, 1) := by decide +kernel
theorem dX9_ofOrder_22 : decode cX9_ofOrder 22 = .ok (.iload_n 1, 1) := by decide +kernel
theorem dX9_ofOrder_23 : decode cX9_ofOrder 23 = .ok (.invokevirtual 95, 3) := by decide +kernel
theorem dX9_ofOrder_26 : decode cX9_ofOrder 26 = .ok (.iload_n 2, 1) := by decide +kernel
theorem dX9_ofOrder_27 : decode cX9_ofOrder 27 = .ok (.invokevirtual 48, 3) := by decide +kernel
theorem dX9_ofOrder_30 : decode cX9_ofOrder 30 = .ok (.goto 4, 3) := by decide +kernel
theorem dX9_ofOrder_33 : decode cX9_ofOrder 33 = .ok (.iconst 0, 1) := by decide +kernel
theorem dX9_ofOrder_34 : decode cX9_ofOrder 34 = .ok (.ireturn, 1) := by decide +kernel
theorem dX9_cupsOf_0 : decode cX9_cupsOf 0 = .ok (.aload_n 0, 1) := by decide +kernel
theorem dX9_cupsOf_1 : decode cX9_cupsOf 1 = .ok (.iload_n 1, 1) := by decide +kernel
theorem dX9_cupsOf_2 : decode cX9_cupsOf 2 = .ok (.iconst 2, 1) := by decide +kernel
theorem dX9_cupsOf_3 : decode cX9_cupsOf 3 = .ok (.invokevirtual 165, 3) := by decide +kernel
theorem dX9_cupsOf_6 : decode cX9_cupsOf 6 = .ok (.ireturn, 1) := by decide +kernel
theorem dX9_priceOf_0 : decode cX9_priceOf 0 = .ok (.aload_n 0, 1) := by decide +kernel
theorem dX9_priceOf_1 : decode cX9_priceOf 1 = .ok (.iload_n 1, 1) := by decide +kernel
theorem dX9_priceOf_2 : decode cX9_priceOf 2 = .ok (.iconst 2, 1) := by decide +kernel
theorem dX9_priceOf_3 : decode cX9_priceOf 3 = .ok (.invokevirtual 165, 3) := by decide +kernel
theorem dX9_priceOf_6 : decode cX9_priceOf 6 = .ok (.aload_n 0, 1) := by decide +kernel
theorem dX9_priceOf_7 : decode cX9_priceOf 7 = .ok (.getfield 9, 3) := by decide +kernel
theorem dX9_priceOf_10 : decode cX9_priceOf 10 = .ok (.bipush 9, 2) := by decide +kernel
theorem dX9_priceOf_12 : decode cX9_priceOf 12 = .ok (.iaload, 1) := by decide +kernel
theorem dX9_priceOf_13 : decode cX9_priceOf 13 = .ok (.imul, 1) := by decide +kernel
theorem dX9_priceOf_14 : decode cX9_priceOf 14 = .ok (.invokestatic 128, 3) := by decide +kernel
theorem dX9_priceOf_17 : decode cX9_priceOf 17 = .ok (.freturn, 1) := by decide +kernel
theorem dX9_kettleFor_0 : decode cX9_kettleFor 0 = .ok (.aload_n 0, 1) := by decide +kernel
theorem dX9_kettleFor_1 : decode cX9_kettleFor 1 = .ok (.iload_n 1, 1) := by decide +kernel
theorem dX9_kettleFor_2 : decode cX9_kettleFor 2 = .ok (.invokevirtual 95, 3) := by decide +kernel
theorem dX9_kettleFor_5 : decode cX9_kettleFor 5 = .ok (.istore_n 2, 1) := by decide +kernel
theorem dX9_kettleFor_6 : decode cX9_kettleFor 6 = .ok (.iload_n 2, 1) := by decide +kernel
theorem dX9_kettleFor_7 : decode cX9_kettleFor 7 = .ok (.ifCond .ge 7, 3) := by decide +kernel
theorem dX9_kettleFor_10 : decode cX9_kettleFor 10 = .ok (.iconst (-1), 1) := by decide +kernel
theorem dX9_kettleFor_11 : decode cX9_kettleFor 11 = .ok (.goto 8, 3) := by decide +kernel
theorem dX9_kettleFor_14 : decode cX9_kettleFor 14 = .ok (.aload_n 0, 1) := by decide +kernel
theorem dX9_kettleFor_15 : decode cX9_kettleFor 15 = .ok (.iload_n 2, 1) := by decide +kernel
theorem dX9_kettleFor_16 : decode cX9_kettleFor 16 = .ok (.invokevirtual 108, 3) := by decide +kernel
theorem dX9_kettleFor_19 : decode cX9_kettleFor 19 = .ok (.istore_n 3, 1) := by decide +kernel
theorem dX9_kettleFor_20 : decode cX9_kettleFor 20 = .ok (.aload_n 0, 1) := by decide +kernel
theorem dX9_kettleFor_21 : decode cX9_kettleFor 21 = .ok (.iload_n 3, 1) := by decide +kernel
theorem dX9_kettleFor_22 : decode cX9_kettleFor 22 = .ok (.ifCond .lt 7, 3) := by decide +kernel
theorem dX9_kettleFor_25 : decode cX9_kettleFor 25 = .ok (.iconst 1, 1) := by decide +kernel
theorem dX9_kettleFor_26 : decode cX9_kettleFor 26 = .ok (.goto 4, 3) := by decide +kernel
theorem dX9_kettleFor_29 : decode cX9_kettleFor 29 = .ok (.iconst 0, 1) := by decide +kernel
theorem dX9_kettleFor_30 : decode cX9_kettleFor 30 = .ok (.invokevirtual 149, 3) := by decide +kernel
theorem dX9_kettleFor_33 : decode cX9_kettleFor 33 = .ok (.ifCond .eq 7, 3) := by decide +kernel
theorem dX9_kettleFor_36 : decode cX9_kettleFor 36 = .ok (.iload_n 3, 1) := by decide +kernel
theorem dX9_kettleFor_37 : decode cX9_kettleFor 37 = .ok (.goto 4, 3) := by decide +kernel
theorem dX9_kettleFor_40 : decode cX9_kettleFor 40 = .ok (.iconst 0, 1) := by decide +kernel
theorem dX9_kettleFor_41 : decode cX9_kettleFor 41 = .ok (.ireturn, 1) := by decide +kernel
theorem dX9_minutesUntilSuitable_0 : decode cX9_minutesUntilSuitable 0 = .ok (.aload_n 0, 1) := by decide +kernel
theorem dX9_minutesUntilSuitable_1 : decode cX9_minutesUntilSuitable 1 = .ok (.iload_n 1, 1) := by decide +kernel
theorem dX9_minutesUntilSuitable_2 : decode cX9_minutesUntilSuitable 2 = .ok (.invokevirtual 95, 3) := by decide +kernel
theorem dX9_minutesUntilSuitable_5 : decode cX9_minutesUntilSuitable 5 = .ok (.istore_n 2, 1) := by decide +kernel
theorem dX9_minutesUntilSuitable_6 : decode cX9_minutesUntilSuitable 6 = .ok (.aload_n 0, 1) := by decide +kernel
theorem dX9_minutesUntilSuitable_7 : decode cX9_minutesUntilSuitable 7 = .ok (.iload_n 2, 1) := by decide +kernel
theorem dX9_minutesUntilSuitable_8 : decode cX9_minutesUntilSuitable 8 = .ok (.ifCond .lt 7, 3) := by decide +kernel
theorem dX9_minutesUntilSuitable_11 : decode cX9_minutesUntilSuitable 11 = .ok (.iconst 1, 1) := by decide +kernel
theorem dX9_minutesUntilSuitable_12 : decode cX9_minutesUntilSuitable 12 = .ok (.goto 4, 3) := by decide +kernel
theorem dX9_minutesUntilSuitable_15 : decode cX9_minutesUntilSuitable 15 = .ok (.iconst 0, 1) := by decide +kernel
theorem dX9_minutesUntilSuitable_16 : decode cX9_minutesUntilSuitable 16 = .ok (.invokevirtual 149, 3) := by decide +kernel
theorem dX9_minutesUntilSuitable_19 : decode cX9_minutesUntilSuitable 19 = .ok (.ifCond .ne 5, 3) := by decide +kernel
theorem dX9_minutesUntilSuitable_22 : decode cX9_minutesUntilSuitable 22 = .ok (.iconst 0, 1) := by decide +kernel
theorem dX9_minutesUntilSuitable_23 : decode cX9_minutesUntilSuitable 23 = .ok (.ireturn, 1) := by decide +kernel
theorem dX9_minutesUntilSuitable_24 : decode cX9_minutesUntilSuitable 24 = .ok (.aload_n 0, 1) := by decide +kernel
theorem dX9_minutesUntilSuitable_25 : decode cX9_minutesUntilSuitable 25 = .ok (.iload_n 2, 1) := by decide +kernel
theorem dX9_minutesUntilSuitable_26 : decode cX9_minutesUntilSuitable 26 = .ok (.invokevirtual 108, 3) := by decide +kernel
theorem dX9_minutesUntilSuitable_29 : decode cX9_minutesUntilSuitable 29 = .ok (.ifCond .lt 7, 3) := by decide +kernel
theorem dX9_minutesUntilSuitable_32 : decode cX9_minutesUntilSuitable 32 = .ok (.iconst 0, 1) := by decide +kernel
theorem dX9_minutesUntilSuitable_33 : decode cX9_minutesUntilSuitable 33 = .ok (.goto 4, 3) := by decide +kernel
theorem dX9_minutesUntilSuitable_36 : decode cX9_minutesUntilSuitable 36 = .ok (.iconst (-1), 1) := by decide +kernel
theorem dX9_minutesUntilSuitable_37 : decode cX9_minutesUntilSuitable 37 = .ok (.istore_n 3, 1) := by decide +kernel
theorem dX9_minutesUntilSuitable_38 : decode cX9_minutesUntilSuitable 38 = .ok (.aload_n 0, 1) := by decide +kernel
theorem dX9_minutesUntilSuitable_39 : decode cX9_minutesUntilSuitable 39 = .ok (.iconst 0, 1) := by decide +kernel
theorem dX9_minutesUntilSuitable_40 : decode cX9_minutesUntilSuitable 40 = .ok (.bipush 11, 2) := by decide +kernel
theorem dX9_minutesUntilSuitable_42 : decode cX9_minutesUntilSuitable 42 = .ok (.invokevirtual 33, 3) := by decide +kernel
theorem dX9_minutesUntilSuitable_45 : decode cX9_minutesUntilSuitable 45 = .ok (.iconst 1, 1) := by decide +kernel
theorem dX9_minutesUntilSuitable_46 : decode cX9_minutesUntilSuitable 46 = .ok (.istore 4, 2) := by decide +kernel
theorem dX9_minutesUntilSuitable_48 : decode cX9_minutesUntilSuitable 48 = .ok (.iload_n 3, 1) := by decide +kernel
theorem dX9_minutesUntilSuitable_49 : decode cX9_minutesUntilSuitable 49 = .ok (.ifCond .ge 59, 3) := by decide +kernel
theorem dX9_minutesUntilSuitable_52 : decode cX9_minutesUntilSuitable 52 = .ok (.iload 4, 2) := by decide +kernel
theorem dX9_minutesUntilSuitable_54 : decode cX9_minutesUntilSuitable 54 = .ok (.bipush 120, 2) := by decide +kernel
theorem dX9_minutesUntilSuitable_56 : decode cX9_minutesUntilSuitable 56 = .ok (.if_icmp .gt 52, 3) := by decide +kernel
theorem dX9_minutesUntilSuitable_59 : decode cX9_minutesUntilSuitable 59 = .ok (.iconst 0, 1) := by decide +kernel
theorem dX9_minutesUntilSuitable_60 : decode cX9_minutesUntilSuitable 60 = .ok (.istore 5, 2) := by decide +kernel
theorem dX9_minutesUntilSuitable_62 : decode cX9_minutesUntilSuitable 62 = .ok (.iload 5, 2) := by decide +kernel
theorem dX9_minutesUntilSuitable_64 : decode cX9_minutesUntilSuitable 64 = .ok (.aload_n 0, 1) := by decide +kernel
theorem dX9_minutesUntilSuitable_65 : decode cX9_minutesUntilSuitable 65 = .ok (.getfield 9, 3) := by decide +kernel
theorem dX9_minutesUntilSuitable_68 : decode cX9_minutesUntilSuitable 68 = .ok (.iconst 1, 1) := by decide +kernel
theorem dX9_minutesUntilSuitable_69 : decode cX9_minutesUntilSuitable 69 = .ok (.iaload, 1) := by decide +kernel
theorem dX9_minutesUntilSuitable_70 : decode cX9_minutesUntilSuitable 70 = .ok (.if_icmp .ge 17, 3) := by decide +kernel
theorem dX9_minutesUntilSuitable_73 : decode cX9_minutesUntilSuitable 73 = .ok (.aload_n 0, 1) := by decide +kernel
theorem dX9_minutesUntilSuitable_74 : decode cX9_minutesUntilSuitable 74 = .ok (.iload 5, 2) := by decide +kernel
theorem dX9_minutesUntilSuitable_76 : decode cX9_minutesUntilSuitable 76 = .ok (.invokevirtual 137, 3) := by decide +kernel
theorem dX9_minutesUntilSuitable_79 : decode cX9_minutesUntilSuitable 79 = .ok (.istore 6, 2) := by decide +kernel
theorem dX9_minutesUntilSuitable_81 : decode cX9_minutesUntilSuitable 81 = .ok (.iinc 5 1, 3) := by decide +kernel
theorem dX9_minutesUntilSuitable_84 : decode cX9_minutesUntilSuitable 84 = .ok (.goto (-22), 3) := by decide +kernel
theorem dX9_minutesUntilSuitable_87 : decode cX9_minutesUntilSuitable 87 = .ok (.aload_n 0, 1) := by decide +kernel
theorem dX9_minutesUntilSuitable_88 : decode cX9_minutesUntilSuitable 88 = .ok (.iload_n 2, 1) := by decide +kernel
theorem dX9_minutesUntilSuitable_89 : decode cX9_minutesUntilSuitable 89 = .ok (.invokevirtual 108, 3) := by decide +kernel
theorem dX9_minutesUntilSuitable_92 : decode cX9_minutesUntilSuitable 92 = .ok (.ifCond .lt 8, 3) := by decide +kernel
theorem dX9_minutesUntilSuitable_95 : decode cX9_minutesUntilSuitable 95 = .ok (.iload 4, 2) := by decide +kernel
theorem dX9_minutesUntilSuitable_97 : decode cX9_minutesUntilSuitable 97 = .ok (.goto 4, 3) := by decide +kernel
theorem dX9_minutesUntilSuitable_100 : decode cX9_minutesUntilSuitable 100 = .ok (.iconst (-1), 1) := by decide +kernel
theorem dX9_minutesUntilSuitable_101 : decode cX9_minutesUntilSuitable 101 = .ok (.istore_n 3, 1) := by decide +kernel
theorem dX9_minutesUntilSuitable_102 : decode cX9_minutesUntilSuitable 102 = .ok (.iinc 4 1, 3) := by decide +kernel
theorem dX9_minutesUntilSuitable_105 : decode cX9_minutesUntilSuitable 105 = .ok (.goto (-57), 3) := by decide +kernel
theorem dX9_minutesUntilSuitable_108 : decode cX9_minutesUntilSuitable 108 = .ok (.aload_n 0, 1) := by decide +kernel
theorem dX9_minutesUntilSuitable_109 : decode cX9_minutesUntilSuitable 109 = .ok (.bipush 11, 2) := by decide +kernel
theorem dX9_minutesUntilSuitable_111 : decode cX9_minutesUntilSuitable 111 = .ok (.iconst 0, 1) := by decide +kernel
theorem dX9_minutesUntilSuitable_112 : decode cX9_minutesUntilSuitable 112 = .ok (.invokevirtual 33, 3) := by decide +kernel
theorem dX9_minutesUntilSuitable_115 : decode cX9_minutesUntilSuitable 115 = .ok (.aload_n 0, 1) := by decide +kernel
theorem dX9_minutesUntilSuitable_116 : decode cX9_minutesUntilSuitable 116 = .ok (.iload_n 3, 1) := by decide +kernel
theorem dX9_minutesUntilSuitable_117 : decode cX9_minutesUntilSuitable 117 = .ok (.ifCond .lt 7, 3) := by decide +kernel
theorem dX9_minutesUntilSuitable_120 : decode cX9_minutesUntilSuitable 120 = .ok (.iconst 1, 1) := by decide +kernel
theorem dX9_minutesUntilSuitable_121 : decode cX9_minutesUntilSuitable 121 = .ok (.goto 4, 3) := by decide +kernel
theorem dX9_minutesUntilSuitable_124 : decode cX9_minutesUntilSuitable 124 = .ok (.iconst 0, 1) := by decide +kernel
theorem dX9_minutesUntilSuitable_125 : decode cX9_minutesUntilSuitable 125 = .ok (.invokevirtual 149, 3) := by decide +kernel
theorem dX9_minutesUntilSuitable_128 : decode cX9_minutesUntilSuitable 128 = .ok (.ifCond .eq 7, 3) := by decide +kernel
theorem dX9_minutesUntilSuitable_131 : decode cX9_minutesUntilSuitable 131 = .ok (.iload_n 3, 1) := by decide +kernel
theorem dX9_minutesUntilSuitable_132 : decode cX9_minutesUntilSuitable 132 = .ok (.goto 4, 3) := by decide +kernel
theorem dX9_minutesUntilSuitable_135 : decode cX9_minutesUntilSuitable 135 = .ok (.iconst 0, 1) := by decide +kernel
theorem dX9_minutesUntilSuitable_136 : decode cX9_minutesUntilSuitable 136 = .ok (.ireturn, 1) := by decide +kernel
theorem dX9_canServe_0 : decode cX9_canServe 0 = .ok (.aload_n 0, 1) := by decide +kernel
theorem dX9_canServe_1 : decode cX9_canServe 1 = .ok (.iconst 0, 1) := by decide +kernel
theorem dX9_canServe_2 : decode cX9_canServe 2 = .ok (.putfield 30, 3) := by decide +kernel
theorem dX9_canServe_5 : decode cX9_canServe 5 = .ok (.aload_n 0, 1) := by decide +kernel
theorem dX9_canServe_6 : decode cX9_canServe 6 = .ok (.invokevirtual 111, 3) := by decide +kernel
theorem dX9_canServe_9 : decode cX9_canServe 9 = .ok (.ireturn, 1) := by decide +kernel
theorem dX9_cleanCups_0 : decode cX9_cleanCups 0 = .ok (.bipush 20, 2) := by decide +kernel
theorem dX9_cleanCups_2 : decode cX9_cleanCups 2 = .ok (.aload_n 0, 1) := by decide +kernel
theorem dX9_cleanCups_3 : decode cX9_cleanCups 3 = .ok (.iconst 4, 1) := by decide +kernel
theorem dX9_cleanCups_4 : decode cX9_cleanCups 4 = .ok (.invokevirtual 146, 3) := by decide +kernel
theorem dX9_cleanCups_7 : decode cX9_cleanCups 7 = .ok (.isub, 1) := by decide +kernel
theorem dX9_cleanCups_8 : decode cX9_cleanCups 8 = .ok (.ireturn, 1) := by decide +kernel
theorem dX9_steam_0 : decode cX9_steam 0 = .ok (.aload_n 0, 1) := by decide +kernel
theorem dX9_steam_1 : decode cX9_steam 1 = .ok (.iconst 5, 1) := by decide +kernel
theorem dX9_steam_2 : decode cX9_steam 2 = .ok (.invokevirtual 146, 3) := by decide +kernel
theorem dX9_steam_5 : decode cX9_steam 5 = .ok (.invokestatic 128, 3) := by decide +kernel
theorem dX9_steam_8 : decode cX9_steam 8 = .ok (.freturn, 1) := by decide +kernel
theorem dX9_boiledTotal_0 : decode cX9_boiledTotal 0 = .ok (.aload_n 0, 1) := by decide +kernel
theorem dX9_boiledTotal_1 : decode cX9_boiledTotal 1 = .ok (.bipush 6, 2) := by decide +kernel
theorem dX9_boiledTotal_3 : decode cX9_boiledTotal 3 = .ok (.invokevirtual 146, 3) := by decide +kernel
theorem dX9_boiledTotal_6 : decode cX9_boiledTotal 6 = .ok (.invokestatic 128, 3) := by decide +kernel
theorem dX9_boiledTotal_9 : decode cX9_boiledTotal 9 = .ok (.freturn, 1) := by decide +kernel
theorem dX9_pouredTotal_0 : decode cX9_pouredTotal 0 = .ok (.aload_n 0, 1) := by decide +kernel
theorem dX9_pouredTotal_1 : decode cX9_pouredTotal 1 = .ok (.bipush 7, 2) := by decide +kernel
theorem dX9_pouredTotal_3 : decode cX9_pouredTotal 3 = .ok (.invokevirtual 146, 3) := by decide +kernel
theorem dX9_pouredTotal_6 : decode cX9_pouredTotal 6 = .ok (.invokestatic 128, 3) := by decide +kernel
theorem dX9_pouredTotal_9 : decode cX9_pouredTotal 9 = .ok (.freturn, 1) := by decide +kernel
theorem dX9_filledTotal_0 : decode cX9_filledTotal 0 = .ok (.aload_n 0, 1) := by decide +kernel
theorem dX9_filledTotal_1 : decode cX9_filledTotal 1 = .ok (.bipush 8, 2) := by decide +kernel
theorem dX9_filledTotal_3 : decode cX9_filledTotal 3 = .ok (.invokevirtual 146, 3) := by decide +kernel
theorem dX9_filledTotal_6 : decode cX9_filledTotal 6 = .ok (.invokestatic 128, 3) := by decide +kernel
theorem dX9_filledTotal_9 : decode cX9_filledTotal 9 = .ok (.freturn, 1) := by decide +kernel
theorem dX9_cupPrice_0 : decode cX9_cupPrice 0 = .ok (.aload_n 0, 1) := by decide +kernel
theorem dX9_cupPrice_1 : decode cX9_cupPrice 1 = .ok (.bipush 9, 2) := by decide +kernel
theorem dX9_cupPrice_3 : decode cX9_cupPrice 3 = .ok (.invokevirtual 146, 3) := by decide +kernel
theorem dX9_cupPrice_6 : decode cX9_cupPrice 6 = .ok (.invokestatic 128, 3) := by decide +kernel
theorem dX9_cupPrice_9 : decode cX9_cupPrice 9 = .ok (.freturn, 1) := by decide +kernel
theorem dX9_steamPrice_0 : decode cX9_steamPrice 0 = .ok (.aload_n 0, 1) := by decide +kernel
theorem dX9_steamPrice_1 : decode cX9_steamPrice 1 = .ok (.bipush 10, 2) := by decide +kernel
theorem dX9_steamPrice_3 : decode cX9_steamPrice 3 = .ok (.invokevirtual 146, 3) := by decide +kernel
theorem dX9_steamPrice_6 : decode cX9_steamPrice 6 = .ok (.i2f, 1) := by decide +kernel
theorem dX9_steamPrice_7 : decode cX9_steamPrice 7 = .ok (.freturn, 1) := by decide +kernel
theorem dX9_income_0 : decode cX9_income 0 = .ok (.aload_n 0, 1) := by decide +kernel
theorem dX9_income_1 : decode cX9_income 1 = .ok (.bipush 12, 2) := by decide +kernel
theorem dX9_income_3 : decode cX9_income 3 = .ok (.invokevirtual 146, 3) := by decide +kernel
theorem dX9_income_6 : decode cX9_income 6 = .ok (.invokestatic 128, 3) := by decide +kernel
theorem dX9_income_9 : decode cX9_income 9 = .ok (.freturn, 1) := by decide +kernel
theorem dX9_nightCount_0 : decode cX9_nightCount 0 = .ok (.aload_n 0, 1) := by decide +kernel
theorem dX9_nightCount_1 : decode cX9_nightCount 1 = .ok (.bipush 13, 2) := by decide +kernel
theorem dX9_nightCount_3 : decode cX9_nightCount 3 = .ok (.invokevirtual 146, 3) := by decide +kernel
theorem dX9_nightCount_6 : decode cX9_nightCount 6 = .ok (.ireturn, 1) := by decide +kernel
theorem dX9_nightIncome_0 : decode cX9_nightIncome 0 = .ok (.aload_n 0, 1) := by decide +kernel
theorem dX9_nightIncome_1 : decode cX9_nightIncome 1 = .ok (.iload_n 1, 1) := by decide +kernel
theorem dX9_nightIncome_2 : decode cX9_nightIncome 2 = .ok (.iconst 0, 1) := by decide +kernel
theorem dX9_nightIncome_3 : decode cX9_nightIncome 3 = .ok (.aload_n 0, 1) := by decide +kernel
theorem dX9_nightIncome_4 : decode cX9_nightIncome 4 = .ok (.getfield 9, 3) := by decide +kernel
theorem dX9_nightIncome_7 : decode cX9_nightIncome 7 = .ok (.bipush 13, 2) := by decide +kernel
theorem dX9_nightIncome_9 : decode cX9_nightIncome 9 = .ok (.iaload, 1) := by decide +kernel
theorem dX9_nightIncome_10 : decode cX9_nightIncome 10 = .ok (.iconst 1, 1) := by decide +kernel
theorem dX9_nightIncome_11 : decode cX9_nightIncome 11 = .ok (.isub, 1) := by decide +kernel
theorem dX9_nightIncome_12 : decode cX9_nightIncome 12 = .ok (.invokestatic 44, 3) := by decide +kernel
theorem dX9_nightIncome_15 : decode cX9_nightIncome 15 = .ok (.invokevirtual 149, 3) := by decide +kernel
theorem dX9_nightIncome_18 : decode cX9_nightIncome 18 = .ok (.ifCond .eq 18, 3) := by decide +kernel
theorem dX9_nightIncome_21 : decode cX9_nightIncome 21 = .ok (.aload_n 0, 1) := by decide +kernel
theorem dX9_nightIncome_22 : decode cX9_nightIncome 22 = .ok (.getfield 9, 3) := by decide +kernel
theorem dX9_nightIncome_25 : decode cX9_nightIncome 25 = .ok (.bipush 19, 2) := by decide +kernel
theorem dX9_nightIncome_27 : decode cX9_nightIncome 27 = .ok (.iload_n 1, 1) := by decide +kernel
theorem dX9_nightIncome_28 : decode cX9_nightIncome 28 = .ok (.iadd, 1) := by decide +kernel
theorem dX9_nightIncome_29 : decode cX9_nightIncome 29 = .ok (.iaload, 1) := by decide +kernel
theorem dX9_nightIncome_30 : decode cX9_nightIncome 30 = .ok (.invokestatic 128, 3) := by decide +kernel
theorem dX9_nightIncome_33 : decode cX9_nightIncome 33 = .ok (.goto 4, 3) := by decide +kernel
theorem dX9_nightIncome_36 : decode cX9_nightIncome 36 = .ok (.fconst 0, 1) := by decide +kernel
theorem dX9_nightIncome_37 : decode cX9_nightIncome 37 = .ok (.freturn, 1) := by decide +kernel
theorem dX9_nightByIncome_0 : decode cX9_nightByIncome 0 = .ok (.iconst 0, 1) := by decide +kernel
theorem dX9_nightByIncome_1 : decode cX9_nightByIncome 1 = .ok (.istore_n 2, 1) := by decide +kernel
theorem dX9_nightByIncome_2 : decode cX9_nightByIncome 2 = .ok (.iload_n 2, 1) := by decide +kernel
theorem dX9_nightByIncome_3 : decode cX9_nightByIncome 3 = .ok (.aload_n 0, 1) := by decide +kernel
theorem dX9_nightByIncome_4 : decode cX9_nightByIncome 4 = .ok (.getfield 9, 3) := by decide +kernel
theorem dX9_nightByIncome_7 : decode cX9_nightByIncome 7 = .ok (.bipush 13, 2) := by decide +kernel
theorem dX9_nightByIncome_9 : decode cX9_nightByIncome 9 = .ok (.iaload, 1) := by decide +kernel
theorem dX9_nightByIncome_10 : decode cX9_nightByIncome 10 = .ok (.if_icmp .ge 109, 3) := by decide +kernel
theorem dX9_nightByIncome_13 : decode cX9_nightByIncome 13 = .ok (.iconst 0, 1) := by decide +kernel
theorem dX9_nightByIncome_14 : decode cX9_nightByIncome 14 = .ok (.istore_n 3, 1) := by decide +kernel
theorem dX9_nightByIncome_15 : decode cX9_nightByIncome 15 = .ok (.iconst 0, 1) := by decide +kernel
theorem dX9_nightByIncome_16 : decode cX9_nightByIncome 16 = .ok (.istore 4, 2) := by decide +kernel
theorem dX9_nightByIncome_18 : decode cX9_nightByIncome 18 = .ok (.iload 4, 2) := by decide +kernel
theorem dX9_nightByIncome_20 : decode cX9_nightByIncome 20 = .ok (.aload_n 0, 1) := by decide +kernel
theorem dX9_nightByIncome_21 : decode cX9_nightByIncome 21 = .ok (.getfield 9, 3) := by decide +kernel
theorem dX9_nightByIncome_24 : decode cX9_nightByIncome 24 = .ok (.bipush 13, 2) := by decide +kernel
theorem dX9_nightByIncome_26 : decode cX9_nightByIncome 26 = .ok (.iaload, 1) := by decide +kernel
theorem dX9_nightByIncome_27 : decode cX9_nightByIncome 27 = .ok (.if_icmp .ge 67, 3) := by decide +kernel
theorem dX9_nightByIncome_30 : decode cX9_nightByIncome 30 = .ok (.iload_n 3, 1) := by decide +kernel
theorem dX9_nightByIncome_31 : decode cX9_nightByIncome 31 = .ok (.aload_n 0, 1) := by decide +kernel
theorem dX9_nightByIncome_32 : decode cX9_nightByIncome 32 = .ok (.getfield 9, 3) := by decide +kernel
theorem dX9_nightByIncome_35 : decode cX9_nightByIncome 35 = .ok (.bipush 19, 2) := by decide +kernel
theorem dX9_nightByIncome_37 : decode cX9_nightByIncome 37 = .ok (.iload 4, 2) := by decide +kernel
theorem dX9_nightByIncome_39 : decode cX9_nightByIncome 39 = .ok (.iadd, 1) := by decide +kernel
theorem dX9_nightByIncome_40 : decode cX9_nightByIncome 40 = .ok (.iaload, 1) := by decide +kernel
theorem dX9_nightByIncome_41 : decode cX9_nightByIncome 41 = .ok (.aload_n 0, 1) := by decide +kernel
theorem dX9_nightByIncome_42 : decode cX9_nightByIncome 42 = .ok (.getfield 9, 3) := by decide +kernel
theorem dX9_nightByIncome_45 : decode cX9_nightByIncome 45 = .ok (.bipush 19, 2) := by decide +kernel
theorem dX9_nightByIncome_47 : decode cX9_nightByIncome 47 = .ok (.iload_n 2, 1) := by decide +kernel
theorem dX9_nightByIncome_48 : decode cX9_nightByIncome 48 = .ok (.iadd, 1) := by decide +kernel
theorem dX9_nightByIncome_49 : decode cX9_nightByIncome 49 = .ok (.iaload, 1) := by decide +kernel
theorem dX9_nightByIncome_50 : decode cX9_nightByIncome 50 = .ok (.if_icmp .gt 31, 3) := by decide +kernel
theorem dX9_nightByIncome_53 : decode cX9_nightByIncome 53 = .ok (.aload_n 0, 1) := by decide +kernel
theorem dX9_nightByIncome_54 : decode cX9_nightByIncome 54 = .ok (.getfield 9, 3) := by decide +kernel
theorem dX9_nightByIncome_57 : decode cX9_nightByIncome 57 = .ok (.bipush 19, 2) := by decide +kernel
theorem dX9_nightByIncome_59 : decode cX9_nightByIncome 59 = .ok (.iload 4, 2) := by decide +kernel
theorem dX9_nightByIncome_61 : decode cX9_nightByIncome 61 = .ok (.iadd, 1) := by decide +kernel
theorem dX9_nightByIncome_62 : decode cX9_nightByIncome 62 = .ok (.iaload, 1) := by decide +kernel
theorem dX9_nightByIncome_63 : decode cX9_nightByIncome 63 = .ok (.aload_n 0, 1) := by decide +kernel
theorem dX9_nightByIncome_64 : decode cX9_nightByIncome 64 = .ok (.getfield 9, 3) := by decide +kernel
theorem dX9_nightByIncome_67 : decode cX9_nightByIncome 67 = .ok (.bipush 19, 2) := by decide +kernel
theorem dX9_nightByIncome_69 : decode cX9_nightByIncome 69 = .ok (.iload_n 2, 1) := by decide +kernel
theorem dX9_nightByIncome_70 : decode cX9_nightByIncome 70 = .ok (.iadd, 1) := by decide +kernel
theorem dX9_nightByIncome_71 : decode cX9_nightByIncome 71 = .ok (.iaload, 1) := by decide +kernel
theorem dX9_nightByIncome_72 : decode cX9_nightByIncome 72 = .ok (.if_icmp .ne 13, 3) := by decide +kernel
theorem dX9_nightByIncome_75 : decode cX9_nightByIncome 75 = .ok (.iload 4, 2) := by decide +kernel
theorem dX9_nightByIncome_77 : decode cX9_nightByIncome 77 = .ok (.iload_n 2, 1) := by decide +kernel
theorem dX9_nightByIncome_78 : decode cX9_nightByIncome 78 = .ok (.if_icmp .ge 7, 3) := by decide +kernel
theorem dX9_nightByIncome_81 : decode cX9_nightByIncome 81 = .ok (.iconst 1, 1) := by decide +kernel
theorem dX9_nightByIncome_82 : decode cX9_nightByIncome 82 = .ok (.goto 4, 3) := by decide +kernel
theorem dX9_nightByIncome_85 : decode cX9_nightByIncome 85 = .ok (.iconst 0, 1) := by decide +kernel
theorem dX9_nightByIncome_86 : decode cX9_nightByIncome 86 = .ok (.iadd, 1) := by decide +kernel
theorem dX9_nightByIncome_87 : decode cX9_nightByIncome 87 = .ok (.istore_n 3, 1) := by decide +kernel
theorem dX9_nightByIncome_88 : decode cX9_nightByIncome 88 = .ok (.iinc 4 1, 3) := by decide +kernel
theorem dX9_nightByIncome_91 : decode cX9_nightByIncome 91 = .ok (.goto (-73), 3) := by decide +kernel
theorem dX9_nightByIncome_94 : decode cX9_nightByIncome 94 = .ok (.aload_n 0, 1) := by decide +kernel
theorem dX9_nightByIncome_95 : decode cX9_nightByIncome 95 = .ok (.iload_n 3, 1) := by decide +kernel
theorem dX9_nightByIncome_96 : decode cX9_nightByIncome 96 = .ok (.iload_n 1, 1) := by decide +kernel
theorem dX9_nightByIncome_97 : decode cX9_nightByIncome 97 = .ok (.if_icmp .ne 7, 3) := by decide +kernel
theorem dX9_nightByIncome_100 : decode cX9_nightByIncome 100 = .ok (.iconst 1, 1) := by decide +kernel
theorem dX9_nightByIncome_101 : decode cX9_nightByIncome 101 = .ok (.goto 4, 3) := by decide +kernel
theorem dX9_nightByIncome_104 : decode cX9_nightByIncome 104 = .ok (.iconst 0, 1) := by decide +kernel
theorem dX9_nightByIncome_105 : decode cX9_nightByIncome 105 = .ok (.invokevirtual 149, 3) := by decide +kernel
theorem dX9_nightByIncome_108 : decode cX9_nightByIncome 108 = .ok (.ifCond .eq 5, 3) := by decide +kernel
theorem dX9_nightByIncome_111 : decode cX9_nightByIncome 111 = .ok (.iload_n 2, 1) := by decide +kernel
theorem dX9_nightByIncome_112 : decode cX9_nightByIncome 112 = .ok (.ireturn, 1) := by decide +kernel
theorem dX9_nightByIncome_113 : decode cX9_nightByIncome 113 = .ok (.iinc 2 1, 3) := by decide +kernel
theorem dX9_nightByIncome_116 : decode cX9_nightByIncome 116 = .ok (.goto (-114), 3) := by decide +kernel
theorem dX9_nightByIncome_119 : decode cX9_nightByIncome 119 = .ok (.aload_n 0, 1) := by decide +kernel
theorem dX9_nightByIncome_120 : decode cX9_nightByIncome 120 = .ok (.iconst 1, 1) := by decide +kernel
theorem dX9_nightByIncome_121 : decode cX9_nightByIncome 121 = .ok (.putfield 30, 3) := by decide +kernel
theorem dX9_nightByIncome_124 : decode cX9_nightByIncome 124 = .ok (.iconst 0, 1) := by decide +kernel
theorem dX9_nightByIncome_125 : decode cX9_nightByIncome 125 = .ok (.ireturn, 1) := by decide +kernel
theorem dX9_greatestIncome_0 : decode cX9_greatestIncome 0 = .ok (.aload_n 0, 1) := by decide +kernel
theorem dX9_greatestIncome_1 : decode cX9_greatestIncome 1 = .ok (.iload_n 1, 1) := by decide +kernel
theorem dX9_greatestIncome_2 : decode cX9_greatestIncome 2 = .ok (.iconst 1, 1) := by decide +kernel
theorem dX9_greatestIncome_3 : decode cX9_greatestIncome 3 = .ok (.bipush 14, 2) := by decide +kernel
theorem dX9_greatestIncome_5 : decode cX9_greatestIncome 5 = .ok (.invokestatic 44, 3) := by decide +kernel
theorem dX9_greatestIncome_8 : decode cX9_greatestIncome 8 = .ok (.ifCond .ne 7, 3) := by decide +kernel
theorem dX9_greatestIncome_11 : decode cX9_greatestIncome 11 = .ok (.iconst 1, 1) := by decide +kernel
theorem dX9_greatestIncome_12 : decode cX9_greatestIncome 12 = .ok (.goto 19, 3) := by decide +kernel
theorem dX9_greatestIncome_15 : decode cX9_greatestIncome 15 = .ok (.aload_n 0, 1) := by decide +kernel
theorem dX9_greatestIncome_16 : decode cX9_greatestIncome 16 = .ok (.getfield 9, 3) := by decide +kernel
theorem dX9_greatestIncome_19 : decode cX9_greatestIncome 19 = .ok (.bipush 13, 2) := by decide +kernel
theorem dX9_greatestIncome_21 : decode cX9_greatestIncome 21 = .ok (.iaload, 1) := by decide +kernel
theorem dX9_greatestIncome_22 : decode cX9_greatestIncome 22 = .ok (.iload_n 1, 1) := by decide +kernel
theorem dX9_greatestIncome_23 : decode cX9_greatestIncome 23 = .ok (.if_icmp .ge 7, 3) := by decide +kernel
theorem dX9_greatestIncome_26 : decode cX9_greatestIncome 26 = .ok (.iconst 2, 1) := by decide +kernel
theorem dX9_greatestIncome_27 : decode cX9_greatestIncome 27 = .ok (.goto 4, 3) := by decide +kernel
theorem dX9_greatestIncome_30 : decode cX9_greatestIncome 30 = .ok (.iconst 0, 1) := by decide +kernel
theorem dX9_greatestIncome_31 : decode cX9_greatestIncome 31 = .ok (.putfield 30, 3) := by decide +kernel
theorem dX9_greatestIncome_34 : decode cX9_greatestIncome 34 = .ok (.aload_n 0, 1) := by decide +kernel
theorem dX9_greatestIncome_35 : decode cX9_greatestIncome 35 = .ok (.getfield 30, 3) := by decide +kernel
theorem dX9_greatestIncome_38 : decode cX9_greatestIncome 38 = .ok (.ifCond .eq 5, 3) := by decide +kernel
theorem dX9_greatestIncome_41 : decode cX9_greatestIncome 41 = .ok (.fconst 0, 1) := by decide +kernel
theorem dX9_greatestIncome_42 : decode cX9_greatestIncome 42 = .ok (.freturn, 1) := by decide +kernel
theorem dX9_greatestIncome_43 : decode cX9_greatestIncome 43 = .ok (.iconst 0, 1) := by decide +kernel
theorem dX9_greatestIncome_44 : decode cX9_greatestIncome 44 = .ok (.istore_n 2, 1) := by decide +kernel
theorem dX9_greatestIncome_45 : decode cX9_greatestIncome 45 = .ok (.iconst 0, 1) := by decide +kernel
theorem dX9_greatestIncome_46 : decode cX9_greatestIncome 46 = .ok (.istore_n 3, 1) := by decide +kernel
theorem dX9_greatestIncome_47 : decode cX9_greatestIncome 47 = .ok (.iload_n 3, 1) := by decide +kernel
theorem dX9_greatestIncome_48 : decode cX9_greatestIncome 48 = .ok (.iload_n 1, 1) := by decide +kernel
theorem dX9_greatestIncome_49 : decode cX9_greatestIncome 49 = .ok (.iadd, 1) := by decide +kernel
theorem dX9_greatestIncome_50 : decode cX9_greatestIncome 50 = .ok (.aload_n 0, 1) := by decide +kernel
theorem dX9_greatestIncome_51 : decode cX9_greatestIncome 51 = .ok (.getfield 9, 3) := by decide +kernel
theorem dX9_greatestIncome_54 : decode cX9_greatestIncome 54 = .ok (.bipush 13, 2) := by decide +kernel
theorem dX9_greatestIncome_56 : decode cX9_greatestIncome 56 = .ok (.iaload, 1) := by decide +kernel
theorem dX9_greatestIncome_57 : decode cX9_greatestIncome 57 = .ok (.if_icmp .gt 57, 3) := by decide +kernel
theorem dX9_greatestIncome_60 : decode cX9_greatestIncome 60 = .ok (.iconst 0, 1) := by decide +kernel
theorem dX9_greatestIncome_61 : decode cX9_greatestIncome 61 = .ok (.istore 4, 2) := by decide +kernel
theorem dX9_greatestIncome_63 : decode cX9_greatestIncome 63 = .ok (.iload_n 3, 1) := by decide +kernel
theorem dX9_greatestIncome_64 : decode cX9_greatestIncome 64 = .ok (.istore 5, 2) := by decide +kernel
theorem dX9_greatestIncome_66 : decode cX9_greatestIncome 66 = .ok (.iload 5, 2) := by decide +kernel
theorem dX9_greatestIncome_68 : decode cX9_greatestIncome 68 = .ok (.iload_n 3, 1) := by decide +kernel
theorem dX9_greatestIncome_69 : decode cX9_greatestIncome 69 = .ok (.iload_n 1, 1) := by decide +kernel
theorem dX9_greatestIncome_70 : decode cX9_greatestIncome 70 = .ok (.iadd, 1) := by decide +kernel
theorem dX9_greatestIncome_71 : decode cX9_greatestIncome 71 = .ok (.if_icmp .ge 24, 3) := by decide +kernel
theorem dX9_greatestIncome_74 : decode cX9_greatestIncome 74 = .ok (.iload 4, 2) := by decide +kernel
theorem dX9_greatestIncome_76 : decode cX9_greatestIncome 76 = .ok (.aload_n 0, 1) := by decide +kernel
theorem dX9_greatestIncome_77 : decode cX9_greatestIncome 77 = .ok (.getfield 9, 3) := by decide +kernel
theorem dX9_greatestIncome_80 : decode cX9_greatestIncome 80 = .ok (.bipush 19, 2) := by decide +kernel
theorem dX9_greatestIncome_82 : decode cX9_greatestIncome 82 = .ok (.iload 5, 2) := by decide +kernel
theorem dX9_greatestIncome_84 : decode cX9_greatestIncome 84 = .ok (.iadd, 1) := by decide +kernel
theorem dX9_greatestIncome_85 : decode cX9_greatestIncome 85 = .ok (.iaload, 1) := by decide +kernel
theorem dX9_greatestIncome_86 : decode cX9_greatestIncome 86 = .ok (.iadd, 1) := by decide +kernel
theorem dX9_greatestIncome_87 : decode cX9_greatestIncome 87 = .ok (.istore 4, 2) := by decide +kernel
theorem dX9_greatestIncome_89 : decode cX9_greatestIncome 89 = .ok (.iinc 5 1, 3) := by decide +kernel
theorem dX9_greatestIncome_92 : decode cX9_greatestIncome 92 = .ok (.goto (-26), 3) := by decide +kernel
theorem dX9_greatestIncome_95 : decode cX9_greatestIncome 95 = .ok (.iload 4, 2) := by decide +kernel
theorem dX9_greatestIncome_97 : decode cX9_greatestIncome 97 = .ok (.iload_n 2, 1) := by decide +kernel
theorem dX9_greatestIncome_98 : decode cX9_greatestIncome 98 = .ok (.if_icmp .le 8, 3) := by decide +kernel
theorem dX9_greatestIncome_101 : decode cX9_greatestIncome 101 = .ok (.iload 4, 2) := by decide +kernel
theorem dX9_greatestIncome_103 : decode cX9_greatestIncome 103 = .ok (.goto 4, 3) := by decide +kernel
theorem dX9_greatestIncome_106 : decode cX9_greatestIncome 106 = .ok (.iload_n 2, 1) := by decide +kernel
theorem dX9_greatestIncome_107 : decode cX9_greatestIncome 107 = .ok (.istore_n 2, 1) := by decide +kernel
theorem dX9_greatestIncome_108 : decode cX9_greatestIncome 108 = .ok (.iinc 3 1, 3) := by decide +kernel
theorem dX9_greatestIncome_111 : decode cX9_greatestIncome 111 = .ok (.goto (-64), 3) := by decide +kernel
theorem dX9_greatestIncome_114 : decode cX9_greatestIncome 114 = .ok (.iload_n 2, 1) := by decide +kernel
theorem dX9_greatestIncome_115 : decode cX9_greatestIncome 115 = .ok (.invokestatic 128, 3) := by decide +kernel
theorem dX9_greatestIncome_118 : decode cX9_greatestIncome 118 = .ok (.freturn, 1) := by decide +kernel
theorem dX9_greatestIncomeBySums_0 : decode cX9_greatestIncomeBySums 0 = .ok (.aload_n 0, 1) := by decide +kernel
theorem dX9_greatestIncomeBySums_1 : decode cX9_greatestIncomeBySums 1 = .ok (.iload_n 1, 1) := by decide +kernel
theorem dX9_greatestIncomeBySums_2 : decode cX9_greatestIncomeBySums 2 = .ok (.invokevirtual 168, 3) := by decide +kernel
theorem dX9_greatestIncomeBySums_5 : decode cX9_greatestIncomeBySums 5 = .ok (.freturn, 1) := by decide +kernel
theorem dX9_totalIncome_0 : decode cX9_totalIncome 0 = .ok (.aload_n 0, 1) := by decide +kernel
theorem dX9_totalIncome_1 : decode cX9_totalIncome 1 = .ok (.bipush 17, 2) := by decide +kernel
theorem dX9_totalIncome_3 : decode cX9_totalIncome 3 = .ok (.invokevirtual 146, 3) := by decide +kernel
theorem dX9_totalIncome_6 : decode cX9_totalIncome 6 = .ok (.aload_n 0, 1) := by decide +kernel
theorem dX9_totalIncome_7 : decode cX9_totalIncome 7 = .ok (.getfield 9, 3) := by decide +kernel
theorem dX9_totalIncome_10 : decode cX9_totalIncome 10 = .ok (.bipush 18, 2) := by decide +kernel
theorem dX9_totalIncome_12 : decode cX9_totalIncome 12 = .ok (.iaload, 1) := by decide +kernel
theorem dX9_totalIncome_13 : decode cX9_totalIncome 13 = .ok (.iadd, 1) := by decide +kernel
theorem dX9_totalIncome_14 : decode cX9_totalIncome 14 = .ok (.invokestatic 128, 3) := by decide +kernel
theorem dX9_totalIncome_17 : decode cX9_totalIncome 17 = .ok (.freturn, 1) := by decide +kernel
theorem dX9_totalIncomeBySales_0 : decode cX9_totalIncomeBySales 0 = .ok (.aload_n 0, 1) := by decide +kernel
theorem dX9_totalIncomeBySales_1 : decode cX9_totalIncomeBySales 1 = .ok (.invokevirtual 171, 3) := by decide +kernel
theorem dX9_totalIncomeBySales_4 : decode cX9_totalIncomeBySales 4 = .ok (.freturn, 1) := by decide +kernel
theorem dX9_servedOrders_0 : decode cX9_servedOrders 0 = .ok (.aload_n 0, 1) := by decide +kernel
theorem dX9_servedOrders_1 : decode cX9_servedOrders 1 = .ok (.bipush 14, 2) := by decide +kernel
theorem dX9_servedOrders_3 : decode cX9_servedOrders 3 = .ok (.invokevirtual 146, 3) := by decide +kernel
theorem dX9_servedOrders_6 : decode cX9_servedOrders 6 = .ok (.ireturn, 1) := by decide +kernel
theorem dX9_whistlesHeard_0 : decode cX9_whistlesHeard 0 = .ok (.aload_n 0, 1) := by decide +kernel
theorem dX9_whistlesHeard_1 : decode cX9_whistlesHeard 1 = .ok (.bipush 15, 2) := by decide +kernel
theorem dX9_whistlesHeard_3 : decode cX9_whistlesHeard 3 = .ok (.invokevirtual 146, 3) := by decide +kernel
theorem dX9_whistlesHeard_6 : decode cX9_whistlesHeard 6 = .ok (.ireturn, 1) := by decide +kernel
theorem dX9_whistlesLost_0 : decode cX9_whistlesLost 0 = .ok (.aload_n 0, 1) := by decide +kernel
theorem dX9_whistlesLost_1 : decode cX9_whistlesLost 1 = .ok (.bipush 16, 2) := by decide +kernel
theorem dX9_whistlesLost_3 : decode cX9_whistlesLost 3 = .ok (.invokevirtual 146, 3) := by decide +kernel
theorem dX9_whistlesLost_6 : decode cX9_whistlesLost 6 = .ok (.ireturn, 1) := by decide +kernel
theorem dX9_meanTemperature_0 : decode cX9_meanTemperature 0 = .ok (.aload_n 0, 1) := by decide +kernel
theorem dX9_meanTemperature_1 : decode cX9_meanTemperature 1 = .ok (.getfield 9, 3) := by decide +kernel
theorem dX9_meanTemperature_4 : decode cX9_meanTemperature 4 = .ok (.iconst 1, 1) := by decide +kernel
theorem dX9_meanTemperature_5 : decode cX9_meanTemperature 5 = .ok (.iaload, 1) := by decide +kernel
theorem dX9_meanTemperature_6 : decode cX9_meanTemperature 6 = .ok (.istore_n 1, 1) := by decide +kernel
theorem dX9_meanTemperature_7 : decode cX9_meanTemperature 7 = .ok (.iconst 0, 1) := by decide +kernel
theorem dX9_meanTemperature_8 : decode cX9_meanTemperature 8 = .ok (.istore_n 2, 1) := by decide +kernel
theorem dX9_meanTemperature_9 : decode cX9_meanTemperature 9 = .ok (.iconst 0, 1) := by decide +kernel
theorem dX9_meanTemperature_10 : decode cX9_meanTemperature 10 = .ok (.istore_n 3, 1) := by decide +kernel
theorem dX9_meanTemperature_11 : decode cX9_meanTemperature 11 = .ok (.iload_n 3, 1) := by decide +kernel
theorem dX9_meanTemperature_12 : decode cX9_meanTemperature 12 = .ok (.iload_n 1, 1) := by decide +kernel
theorem dX9_meanTemperature_13 : decode cX9_meanTemperature 13 = .ok (.if_icmp .ge 18, 3) := by decide +kernel
theorem dX9_meanTemperature_16 : decode cX9_meanTemperature 16 = .ok (.iload_n 2, 1) := by decide +kernel
theorem dX9_meanTemperature_17 : decode cX9_meanTemperature 17 = .ok (.aload_n 0, 1) := by decide +kernel
theorem dX9_meanTemperature_18 : decode cX9_meanTemperature 18 = .ok (.iload_n 3, 1) := by decide +kernel
theorem dX9_meanTemperature_19 : decode cX9_meanTemperature 19 = .ok (.iconst 2, 1) := by decide +kernel
theorem dX9_meanTemperature_20 : decode cX9_meanTemperature 20 = .ok (.invokevirtual 60, 3) := by decide +kernel
theorem dX9_meanTemperature_23 : decode cX9_meanTemperature 23 = .ok (.iadd, 1) := by decide +kernel
theorem dX9_meanTemperature_24 : decode cX9_meanTemperature 24 = .ok (.istore_n 2, 1) := by decide +kernel
theorem dX9_meanTemperature_25 : decode cX9_meanTemperature 25 = .ok (.iinc 3 1, 3) := by decide +kernel
theorem dX9_meanTemperature_28 : decode cX9_meanTemperature 28 = .ok (.goto (-17), 3) := by decide +kernel
theorem dX9_meanTemperature_31 : decode cX9_meanTemperature 31 = .ok (.aload_n 0, 1) := by decide +kernel
theorem dX9_meanTemperature_32 : decode cX9_meanTemperature 32 = .ok (.iload_n 1, 1) := by decide +kernel
theorem dX9_meanTemperature_33 : decode cX9_meanTemperature 33 = .ok (.ifCond .le 7, 3) := by decide +kernel
theorem dX9_meanTemperature_36 : decode cX9_meanTemperature 36 = .ok (.iconst 1, 1) := by decide +kernel
theorem dX9_meanTemperature_37 : decode cX9_meanTemperature 37 = .ok (.goto 4, 3) := by decide +kernel
theorem dX9_meanTemperature_40 : decode cX9_meanTemperature 40 = .ok (.iconst 0, 1) := by decide +kernel
theorem dX9_meanTemperature_41 : decode cX9_meanTemperature 41 = .ok (.invokevirtual 149, 3) := by decide +kernel
theorem dX9_meanTemperature_44 : decode cX9_meanTemperature 44 = .ok (.ifCond .eq 15, 3) := by decide +kernel
theorem dX9_meanTemperature_47 : decode cX9_meanTemperature 47 = .ok (.iload_n 2, 1) := by decide +kernel
theorem dX9_meanTemperature_48 : decode cX9_meanTemperature 48 = .ok (.i2d, 1) := by decide +kernel
theorem dX9_meanTemperature_49 : decode cX9_meanTemperature 49 = .ok (.ldc2_w 175, 3) := by decide +kernel
theorem dX9_meanTemperature_52 : decode cX9_meanTemperature 52 = .ok (.ddiv, 1) := by decide +kernel
theorem dX9_meanTemperature_53 : decode cX9_meanTemperature 53 = .ok (.iload_n 1, 1) := by decide +kernel
theorem dX9_meanTemperature_54 : decode cX9_meanTemperature 54 = .ok (.i2d, 1) := by decide +kernel
theorem dX9_meanTemperature_55 : decode cX9_meanTemperature 55 = .ok (.ddiv, 1) := by decide +kernel
theorem dX9_meanTemperature_56 : decode cX9_meanTemperature 56 = .ok (.goto 4, 3) := by decide +kernel
theorem dX9_meanTemperature_59 : decode cX9_meanTemperature 59 = .ok (.dconst 0, 1) := by decide +kernel
theorem dX9_meanTemperature_60 : decode cX9_meanTemperature 60 = .ok (.dreturn, 1) := by decide +kernel
theorem dX9_lostShare_0 : decode cX9_lostShare 0 = .ok (.aload_n 0, 1) := by decide +kernel
theorem dX9_lostShare_1 : decode cX9_lostShare 1 = .ok (.getfield 9, 3) := by decide +kernel
theorem dX9_lostShare_4 : decode cX9_lostShare 4 = .ok (.bipush 15, 2) := by decide +kernel
theorem dX9_lostShare_6 : decode cX9_lostShare 6 = .ok (.iaload, 1) := by decide +kernel
theorem dX9_lostShare_7 : decode cX9_lostShare 7 = .ok (.aload_n 0, 1) := by decide +kernel
theorem dX9_lostShare_8 : decode cX9_lostShare 8 = .ok (.getfield 9, 3) := by decide +kernel
theorem dX9_lostShare_11 : decode cX9_lostShare 11 = .ok (.bipush 16, 2) := by decide +kernel
theorem dX9_lostShare_13 : decode cX9_lostShare 13 = .ok (.iaload, 1) := by decide +kernel
theorem dX9_lostShare_14 : decode cX9_lostShare 14 = .ok (.iadd, 1) := by decide +kernel
theorem dX9_lostShare_15 : decode cX9_lostShare 15 = .ok (.istore_n 1, 1) := by decide +kernel
theorem dX9_lostShare_16 : decode cX9_lostShare 16 = .ok (.aload_n 0, 1) := by decide +kernel
theorem dX9_lostShare_17 : decode cX9_lostShare 17 = .ok (.iload_n 1, 1) := by decide +kernel
theorem dX9_lostShare_18 : decode cX9_lostShare 18 = .ok (.ifCond .le 7, 3) := by decide +kernel
theorem dX9_lostShare_21 : decode cX9_lostShare 21 = .ok (.iconst 1, 1) := by decide +kernel
theorem dX9_lostShare_22 : decode cX9_lostShare 22 = .ok (.goto 4, 3) := by decide +kernel
theorem dX9_lostShare_25 : decode cX9_lostShare 25 = .ok (.iconst 0, 1) := by decide +kernel
theorem dX9_lostShare_26 : decode cX9_lostShare 26 = .ok (.invokevirtual 149, 3) := by decide +kernel
theorem dX9_lostShare_29 : decode cX9_lostShare 29 = .ok (.ifCond .eq 17, 3) := by decide +kernel
theorem dX9_lostShare_32 : decode cX9_lostShare 32 = .ok (.aload_n 0, 1) := by decide +kernel
theorem dX9_lostShare_33 : decode cX9_lostShare 33 = .ok (.getfield 9, 3) := by decide +kernel
theorem dX9_lostShare_36 : decode cX9_lostShare 36 = .ok (.bipush 16, 2) := by decide +kernel
theorem dX9_lostShare_38 : decode cX9_lostShare 38 = .ok (.iaload, 1) := by decide +kernel
theorem dX9_lostShare_39 : decode cX9_lostShare 39 = .ok (.i2f, 1) := by decide +kernel
theorem dX9_lostShare_40 : decode cX9_lostShare 40 = .ok (.iload_n 1, 1) := by decide +kernel
theorem dX9_lostShare_41 : decode cX9_lostShare 41 = .ok (.i2f, 1) := by decide +kernel
theorem dX9_lostShare_42 : decode cX9_lostShare 42 = .ok (.fdiv, 1) := by decide +kernel
theorem dX9_lostShare_43 : decode cX9_lostShare 43 = .ok (.goto 4, 3) := by decide +kernel
theorem dX9_lostShare_46 : decode cX9_lostShare 46 = .ok (.fconst 0, 1) := by decide +kernel
theorem dX9_lostShare_47 : decode cX9_lostShare 47 = .ok (.freturn, 1) := by decide +kernel
theorem dX9_isBalanced_0 : decode cX9_isBalanced 0 = .ok (.aload_n 0, 1) := by decide +kernel
theorem dX9_isBalanced_1 : decode cX9_isBalanced 1 = .ok (.iconst 0, 1) := by decide +kernel
theorem dX9_isBalanced_2 : decode cX9_isBalanced 2 = .ok (.putfield 30, 3) := by decide +kernel
theorem dX9_isBalanced_5 : decode cX9_isBalanced 5 = .ok (.iconst 1, 1) := by decide +kernel
theorem dX9_isBalanced_6 : decode cX9_isBalanced 6 = .ok (.ireturn, 1) := by decide +kernel
theorem dX9_writes_0 : decode cX9_writes 0 = .ok (.aload_n 0, 1) := by decide +kernel
theorem dX9_writes_1 : decode cX9_writes 1 = .ok (.getfield 13, 3) := by decide +kernel
theorem dX9_writes_4 : decode cX9_writes 4 = .ok (.aload_n 0, 1) := by decide +kernel
theorem dX9_writes_5 : decode cX9_writes 5 = .ok (.getfield 177, 3) := by decide +kernel
theorem dX9_writes_8 : decode cX9_writes 8 = .ok (.iload_n 1, 1) := by decide +kernel
theorem dX9_writes_9 : decode cX9_writes 9 = .ok (.i2c, 1) := by decide +kernel
theorem dX9_writes_10 : decode cX9_writes 10 = .ok (.castore, 1) := by decide +kernel
theorem dX9_writes_11 : decode cX9_writes 11 = .ok (.aload_n 0, 1) := by decide +kernel
theorem dX9_writes_12 : decode cX9_writes 12 = .ok (.dup, 1) := by decide +kernel
theorem dX9_writes_13 : decode cX9_writes 13 = .ok (.getfield 177, 3) := by decide +kernel
theorem dX9_writes_16 : decode cX9_writes 16 = .ok (.iconst 1, 1) := by decide +kernel
theorem dX9_writes_17 : decode cX9_writes 17 = .ok (.iadd, 1) := by decide +kernel
theorem dX9_writes_18 : decode cX9_writes 18 = .ok (.putfield 177, 3) := by decide +kernel
theorem dX9_writes_21 : decode cX9_writes 21 = .ok (.return_, 1) := by decide +kernel
theorem dX9_writesNumber_0 : decode cX9_writesNumber 0 = .ok (.iload_n 1, 1) := by decide +kernel
theorem dX9_writesNumber_1 : decode cX9_writesNumber 1 = .ok (.bipush 9, 2) := by decide +kernel
theorem dX9_writesNumber_3 : decode cX9_writesNumber 3 = .ok (.if_icmp .le 11, 3) := by decide +kernel
theorem dX9_writesNumber_6 : decode cX9_writesNumber 6 = .ok (.aload_n 0, 1) := by decide +kernel
theorem dX9_writesNumber_7 : decode cX9_writesNumber 7 = .ok (.iload_n 1, 1) := by decide +kernel
theorem dX9_writesNumber_8 : decode cX9_writesNumber 8 = .ok (.bipush 10, 2) := by decide +kernel
theorem dX9_writesNumber_10 : decode cX9_writesNumber 10 = .ok (.idiv, 1) := by decide +kernel
theorem dX9_writesNumber_11 : decode cX9_writesNumber 11 = .ok (.invokevirtual 180, 3) := by decide +kernel
theorem dX9_writesNumber_14 : decode cX9_writesNumber 14 = .ok (.aload_n 0, 1) := by decide +kernel
theorem dX9_writesNumber_15 : decode cX9_writesNumber 15 = .ok (.bipush 48, 2) := by decide +kernel
theorem dX9_writesNumber_17 : decode cX9_writesNumber 17 = .ok (.iload_n 1, 1) := by decide +kernel
theorem dX9_writesNumber_18 : decode cX9_writesNumber 18 = .ok (.bipush 10, 2) := by decide +kernel
theorem dX9_writesNumber_20 : decode cX9_writesNumber 20 = .ok (.irem, 1) := by decide +kernel
theorem dX9_writesNumber_21 : decode cX9_writesNumber 21 = .ok (.iadd, 1) := by decide +kernel
theorem dX9_writesNumber_22 : decode cX9_writesNumber 22 = .ok (.invokevirtual 183, 3) := by decide +kernel
theorem dX9_writesNumber_25 : decode cX9_writesNumber 25 = .ok (.return_, 1) := by decide +kernel
theorem dX9_formatKettle_0 : decode cX9_formatKettle 0 = .ok (.aload_n 0, 1) := by decide +kernel
theorem dX9_formatKettle_1 : decode cX9_formatKettle 1 = .ok (.aload_n 0, 1) := by decide +kernel
theorem dX9_formatKettle_2 : decode cX9_formatKettle 2 = .ok (.iload_n 1, 1) := by decide +kernel
theorem dX9_formatKettle_3 : decode cX9_formatKettle 3 = .ok (.invokevirtual 77, 3) := by decide +kernel
theorem dX9_formatKettle_6 : decode cX9_formatKettle 6 = .ok (.invokevirtual 149, 3) := by decide +kernel
theorem dX9_formatKettle_9 : decode cX9_formatKettle 9 = .ok (.ifCond .ne 5, 3) := by decide +kernel
theorem dX9_formatKettle_12 : decode cX9_formatKettle 12 = .ok (.iconst 0, 1) := by decide +kernel
theorem dX9_formatKettle_13 : decode cX9_formatKettle 13 = .ok (.ireturn, 1) := by decide +kernel
theorem dX9_formatKettle_14 : decode cX9_formatKettle 14 = .ok (.aload_n 0, 1) := by decide +kernel
theorem dX9_formatKettle_15 : decode cX9_formatKettle 15 = .ok (.iconst 0, 1) := by decide +kernel
theorem dX9_formatKettle_16 : decode cX9_formatKettle 16 = .ok (.putfield 177, 3) := by decide +kernel
theorem dX9_formatKettle_19 : decode cX9_formatKettle 19 = .ok (.aload_n 0, 1) := by decide +kernel
theorem dX9_formatKettle_20 : decode cX9_formatKettle 20 = .ok (.bipush 75, 2) := by decide +kernel
theorem dX9_formatKettle_22 : decode cX9_formatKettle 22 = .ok (.invokevirtual 183, 3) := by decide +kernel
theorem dX9_formatKettle_25 : decode cX9_formatKettle 25 = .ok (.aload_n 0, 1) := by decide +kernel
theorem dX9_formatKettle_26 : decode cX9_formatKettle 26 = .ok (.iload_n 1, 1) := by decide +kernel
theorem dX9_formatKettle_27 : decode cX9_formatKettle 27 = .ok (.invokevirtual 180, 3) := by decide +kernel
theorem dX9_formatKettle_30 : decode cX9_formatKettle 30 = .ok (.aload_n 0, 1) := by decide +kernel
theorem dX9_formatKettle_31 : decode cX9_formatKettle 31 = .ok (.bipush 32, 2) := by decide +kernel
theorem dX9_formatKettle_33 : decode cX9_formatKettle 33 = .ok (.invokevirtual 183, 3) := by decide +kernel
theorem dX9_formatKettle_36 : decode cX9_formatKettle 36 = .ok (.aload_n 0, 1) := by decide +kernel
theorem dX9_formatKettle_37 : decode cX9_formatKettle 37 = .ok (.aload_n 0, 1) := by decide +kernel
theorem dX9_formatKettle_38 : decode cX9_formatKettle 38 = .ok (.iload_n 1, 1) := by decide +kernel
theorem dX9_formatKettle_39 : decode cX9_formatKettle 39 = .ok (.iconst 1, 1) := by decide +kernel
theorem dX9_formatKettle_40 : decode cX9_formatKettle 40 = .ok (.invokevirtual 60, 3) := by decide +kernel
theorem dX9_formatKettle_43 : decode cX9_formatKettle 43 = .ok (.invokevirtual 180, 3) := by decide +kernel
theorem dX9_formatKettle_46 : decode cX9_formatKettle 46 = .ok (.aload_n 0, 1) := by decide +kernel
theorem dX9_formatKettle_47 : decode cX9_formatKettle 47 = .ok (.bipush 47, 2) := by decide +kernel
theorem dX9_formatKettle_49 : decode cX9_formatKettle 49 = .ok (.invokevirtual 183, 3) := by decide +kernel
theorem dX9_formatKettle_52 : decode cX9_formatKettle 52 = .ok (.aload_n 0, 1) := by decide +kernel
theorem dX9_formatKettle_53 : decode cX9_formatKettle 53 = .ok (.aload_n 0, 1) := by decide +kernel
theorem dX9_formatKettle_54 : decode cX9_formatKettle 54 = .ok (.iload_n 1, 1) := by decide +kernel
theorem dX9_formatKettle_55 : decode cX9_formatKettle 55 = .ok (.iconst 0, 1) := by decide +kernel
theorem dX9_formatKettle_56 : decode cX9_formatKettle 56 = .ok (.invokevirtual 60, 3) := by decide +kernel
theorem dX9_formatKettle_59 : decode cX9_formatKettle 59 = .ok (.invokevirtual 180, 3) := by decide +kernel
theorem dX9_formatKettle_62 : decode cX9_formatKettle 62 = .ok (.aload_n 0, 1) := by decide +kernel
theorem dX9_formatKettle_63 : decode cX9_formatKettle 63 = .ok (.bipush 32, 2) := by decide +kernel
theorem dX9_formatKettle_65 : decode cX9_formatKettle 65 = .ok (.invokevirtual 183, 3) := by decide +kernel
theorem dX9_formatKettle_68 : decode cX9_formatKettle 68 = .ok (.aload_n 0, 1) := by decide +kernel
theorem dX9_formatKettle_69 : decode cX9_formatKettle 69 = .ok (.aload_n 0, 1) := by decide +kernel
theorem dX9_formatKettle_70 : decode cX9_formatKettle 70 = .ok (.iload_n 1, 1) := by decide +kernel
theorem dX9_formatKettle_71 : decode cX9_formatKettle 71 = .ok (.iconst 2, 1) := by decide +kernel
theorem dX9_formatKettle_72 : decode cX9_formatKettle 72 = .ok (.invokevirtual 60, 3) := by decide +kernel
theorem dX9_formatKettle_75 : decode cX9_formatKettle 75 = .ok (.invokevirtual 180, 3) := by decide +kernel
theorem dX9_formatKettle_78 : decode cX9_formatKettle 78 = .ok (.aload_n 0, 1) := by decide +kernel
theorem dX9_formatKettle_79 : decode cX9_formatKettle 79 = .ok (.bipush 104, 2) := by decide +kernel
theorem dX9_formatKettle_81 : decode cX9_formatKettle 81 = .ok (.invokevirtual 183, 3) := by decide +kernel
theorem dX9_formatKettle_84 : decode cX9_formatKettle 84 = .ok (.aload_n 0, 1) := by decide +kernel
theorem dX9_formatKettle_85 : decode cX9_formatKettle 85 = .ok (.iload_n 1, 1) := by decide +kernel
theorem dX9_formatKettle_86 : decode cX9_formatKettle 86 = .ok (.iconst 3, 1) := by decide +kernel
theorem dX9_formatKettle_87 : decode cX9_formatKettle 87 = .ok (.invokevirtual 60, 3) := by decide +kernel
theorem dX9_formatKettle_90 : decode cX9_formatKettle 90 = .ok (.ifCond .le 25, 3) := by decide +kernel
theorem dX9_formatKettle_93 : decode cX9_formatKettle 93 = .ok (.aload_n 0, 1) := by decide +kernel
theorem dX9_formatKettle_94 : decode cX9_formatKettle 94 = .ok (.bipush 32, 2) := by decide +kernel
theorem dX9_formatKettle_96 : decode cX9_formatKettle 96 = .ok (.invokevirtual 183, 3) := by decide +kernel
theorem dX9_formatKettle_99 : decode cX9_formatKettle 99 = .ok (.aload_n 0, 1) := by decide +kernel
theorem dX9_formatKettle_100 : decode cX9_formatKettle 100 = .ok (.bipush 98, 2) := by decide +kernel
theorem dX9_formatKettle_102 : decode cX9_formatKettle 102 = .ok (.invokevirtual 183, 3) := by decide +kernel
theorem dX9_formatKettle_105 : decode cX9_formatKettle 105 = .ok (.aload_n 0, 1) := by decide +kernel
theorem dX9_formatKettle_106 : decode cX9_formatKettle 106 = .ok (.aload_n 0, 1) := by decide +kernel
theorem dX9_formatKettle_107 : decode cX9_formatKettle 107 = .ok (.iload_n 1, 1) := by decide +kernel
theorem dX9_formatKettle_108 : decode cX9_formatKettle 108 = .ok (.iconst 3, 1) := by decide +kernel
theorem dX9_formatKettle_109 : decode cX9_formatKettle 109 = .ok (.invokevirtual 60, 3) := by decide +kernel
theorem dX9_formatKettle_112 : decode cX9_formatKettle 112 = .ok (.invokevirtual 180, 3) := by decide +kernel
theorem dX9_formatKettle_115 : decode cX9_formatKettle 115 = .ok (.aload_n 0, 1) := by decide +kernel
theorem dX9_formatKettle_116 : decode cX9_formatKettle 116 = .ok (.iload_n 1, 1) := by decide +kernel
theorem dX9_formatKettle_117 : decode cX9_formatKettle 117 = .ok (.iconst 4, 1) := by decide +kernel
theorem dX9_formatKettle_118 : decode cX9_formatKettle 118 = .ok (.invokevirtual 60, 3) := by decide +kernel
theorem dX9_formatKettle_121 : decode cX9_formatKettle 121 = .ok (.iconst 1, 1) := by decide +kernel
theorem dX9_formatKettle_122 : decode cX9_formatKettle 122 = .ok (.if_icmp .ne 9, 3) := by decide +kernel
theorem dX9_formatKettle_125 : decode cX9_formatKettle 125 = .ok (.aload_n 0, 1) := by decide +kernel
theorem dX9_formatKettle_126 : decode cX9_formatKettle 126 = .ok (.bipush 33, 2) := by decide +kernel
theorem dX9_formatKettle_128 : decode cX9_formatKettle 128 = .ok (.invokevirtual 183, 3) := by decide +kernel
theorem dX9_formatKettle_131 : decode cX9_formatKettle 131 = .ok (.aload_n 0, 1) := by decide +kernel
theorem dX9_formatKettle_132 : decode cX9_formatKettle 132 = .ok (.getfield 177, 3) := by decide +kernel
theorem dX9_formatKettle_135 : decode cX9_formatKettle 135 = .ok (.ireturn, 1) := by decide +kernel
theorem dX9_writesBehind_0 : decode cX9_writesBehind 0 = .ok (.aload_n 0, 1) := by decide +kernel
theorem dX9_writesBehind_1 : decode cX9_writesBehind 1 = .ok (.iload_n 1, 1) := by decide +kernel
theorem dX9_writesBehind_2 : decode cX9_writesBehind 2 = .ok (.invokevirtual 183, 3) := by decide +kernel
theorem dX9_writesBehind_5 : decode cX9_writesBehind 5 = .ok (.aload_n 0, 1) := by decide +kernel
theorem dX9_writesBehind_6 : decode cX9_writesBehind 6 = .ok (.iload_n 2, 1) := by decide +kernel
theorem dX9_writesBehind_7 : decode cX9_writesBehind 7 = .ok (.invokevirtual 180, 3) := by decide +kernel
theorem dX9_writesBehind_10 : decode cX9_writesBehind 10 = .ok (.return_, 1) := by decide +kernel
theorem dX9_formatOrder_0 : decode cX9_formatOrder 0 = .ok (.aload_n 0, 1) := by decide +kernel
theorem dX9_formatOrder_1 : decode cX9_formatOrder 1 = .ok (.iload_n 1, 1) := by decide +kernel
theorem dX9_formatOrder_2 : decode cX9_formatOrder 2 = .ok (.invokevirtual 95, 3) := by decide +kernel
theorem dX9_formatOrder_5 : decode cX9_formatOrder 5 = .ok (.istore_n 2, 1) := by decide +kernel
theorem dX9_formatOrder_6 : decode cX9_formatOrder 6 = .ok (.aload_n 0, 1) := by decide +kernel
theorem dX9_formatOrder_7 : decode cX9_formatOrder 7 = .ok (.iload_n 2, 1) := by decide +kernel
theorem dX9_formatOrder_8 : decode cX9_formatOrder 8 = .ok (.ifCond .lt 7, 3) := by decide +kernel
theorem dX9_formatOrder_11 : decode cX9_formatOrder 11 = .ok (.iconst 1, 1) := by decide +kernel
theorem dX9_formatOrder_12 : decode cX9_formatOrder 12 = .ok (.goto 4, 3) := by decide +kernel
theorem dX9_formatOrder_15 : decode cX9_formatOrder 15 = .ok (.iconst 0, 1) := by decide +kernel
theorem dX9_formatOrder_16 : decode cX9_formatOrder 16 = .ok (.invokevirtual 149, 3) := by decide +kernel
theorem dX9_formatOrder_19 : decode cX9_formatOrder 19 = .ok (.ifCond .ne 5, 3) := by decide +kernel
theorem dX9_formatOrder_22 : decode cX9_formatOrder 22 = .ok (.iconst 0, 1) := by decide +kernel
theorem dX9_formatOrder_23 : decode cX9_formatOrder 23 = .ok (.ireturn, 1) := by decide +kernel
theorem dX9_formatOrder_24 : decode cX9_formatOrder 24 = .ok (.aload_n 0, 1) := by decide +kernel
theorem dX9_formatOrder_25 : decode cX9_formatOrder 25 = .ok (.iconst 0, 1) := by decide +kernel
theorem dX9_formatOrder_26 : decode cX9_formatOrder 26 = .ok (.putfield 177, 3) := by decide +kernel
theorem dX9_formatOrder_29 : decode cX9_formatOrder 29 = .ok (.aload_n 0, 1) := by decide +kernel
theorem dX9_formatOrder_30 : decode cX9_formatOrder 30 = .ok (.bipush 35, 2) := by decide +kernel
theorem dX9_formatOrder_32 : decode cX9_formatOrder 32 = .ok (.aload_n 0, 1) := by decide +kernel
theorem dX9_formatOrder_33 : decode cX9_formatOrder 33 = .ok (.iload_n 2, 1) := by decide +kernel
theorem dX9_formatOrder_34 : decode cX9_formatOrder 34 = .ok (.iconst 0, 1) := by decide +kernel
theorem dX9_formatOrder_35 : decode cX9_formatOrder 35 = .ok (.invokevirtual 48, 3) := by decide +kernel
theorem dX9_formatOrder_38 : decode cX9_formatOrder 38 = .ok (.invokevirtual 186, 3) := by decide +kernel
theorem dX9_formatOrder_41 : decode cX9_formatOrder 41 = .ok (.aload_n 0, 1) := by decide +kernel
theorem dX9_formatOrder_42 : decode cX9_formatOrder 42 = .ok (.bipush 32, 2) := by decide +kernel
theorem dX9_formatOrder_44 : decode cX9_formatOrder 44 = .ok (.invokevirtual 183, 3) := by decide +kernel
theorem dX9_formatOrder_47 : decode cX9_formatOrder 47 = .ok (.aload_n 0, 1) := by decide +kernel
theorem dX9_formatOrder_48 : decode cX9_formatOrder 48 = .ok (.bipush 116, 2) := by decide +kernel
theorem dX9_formatOrder_50 : decode cX9_formatOrder 50 = .ok (.aload_n 0, 1) := by decide +kernel
theorem dX9_formatOrder_51 : decode cX9_formatOrder 51 = .ok (.iload_n 2, 1) := by decide +kernel
theorem dX9_formatOrder_52 : decode cX9_formatOrder 52 = .ok (.iconst 1, 1) := by decide +kernel
theorem dX9_formatOrder_53 : decode cX9_formatOrder 53 = .ok (.invokevirtual 48, 3) := by decide +kernel
theorem dX9_formatOrder_56 : decode cX9_formatOrder 56 = .ok (.invokevirtual 186, 3) := by decide +kernel
theorem dX9_formatOrder_59 : decode cX9_formatOrder 59 = .ok (.aload_n 0, 1) := by decide +kernel
theorem dX9_formatOrder_60 : decode cX9_formatOrder 60 = .ok (.bipush 32, 2) := by decide +kernel
theorem dX9_formatOrder_62 : decode cX9_formatOrder 62 = .ok (.aload_n 0, 1) := by decide +kernel
theorem dX9_formatOrder_63 : decode cX9_formatOrder 63 = .ok (.iload_n 2, 1) := by decide +kernel
theorem dX9_formatOrder_64 : decode cX9_formatOrder 64 = .ok (.iconst 2, 1) := by decide +kernel
theorem dX9_formatOrder_65 : decode cX9_formatOrder 65 = .ok (.invokevirtual 48, 3) := by decide +kernel
theorem dX9_formatOrder_68 : decode cX9_formatOrder 68 = .ok (.invokevirtual 186, 3) := by decide +kernel
theorem dX9_formatOrder_71 : decode cX9_formatOrder 71 = .ok (.aload_n 0, 1) := by decide +kernel
theorem dX9_formatOrder_72 : decode cX9_formatOrder 72 = .ok (.bipush 120, 2) := by decide +kernel
theorem dX9_formatOrder_74 : decode cX9_formatOrder 74 = .ok (.aload_n 0, 1) := by decide +kernel
theorem dX9_formatOrder_75 : decode cX9_formatOrder 75 = .ok (.iload_n 2, 1) := by decide +kernel
theorem dX9_formatOrder_76 : decode cX9_formatOrder 76 = .ok (.iconst 3, 1) := by decide +kernel
theorem dX9_formatOrder_77 : decode cX9_formatOrder 77 = .ok (.invokevirtual 48, 3) := by decide +kernel
theorem dX9_formatOrder_80 : decode cX9_formatOrder 80 = .ok (.invokevirtual 186, 3) := by decide +kernel
theorem dX9_formatOrder_83 : decode cX9_formatOrder 83 = .ok (.aload_n 0, 1) := by decide +kernel
theorem dX9_formatOrder_84 : decode cX9_formatOrder 84 = .ok (.bipush 32, 2) := by decide +kernel
theorem dX9_formatOrder_86 : decode cX9_formatOrder 86 = .ok (.invokevirtual 183, 3) := by decide +kernel
theorem dX9_formatOrder_89 : decode cX9_formatOrder 89 = .ok (.aload_n 0, 1) := by decide +kernel
theorem dX9_formatOrder_90 : decode cX9_formatOrder 90 = .ok (.bipush 112, 2) := by decide +kernel
theorem dX9_formatOrder_92 : decode cX9_formatOrder 92 = .ok (.aload_n 0, 1) := by decide +kernel
theorem dX9_formatOrder_93 : decode cX9_formatOrder 93 = .ok (.iload_n 2, 1) := by decide +kernel
theorem dX9_formatOrder_94 : decode cX9_formatOrder 94 = .ok (.iconst 4, 1) := by decide +kernel
theorem dX9_formatOrder_95 : decode cX9_formatOrder 95 = .ok (.invokevirtual 48, 3) := by decide +kernel
theorem dX9_formatOrder_98 : decode cX9_formatOrder 98 = .ok (.invokevirtual 186, 3) := by decide +kernel
theorem dX9_formatOrder_101 : decode cX9_formatOrder 101 = .ok (.aload_n 0, 1) := by decide +kernel
theorem dX9_formatOrder_102 : decode cX9_formatOrder 102 = .ok (.getfield 177, 3) := by decide +kernel
theorem dX9_formatOrder_105 : decode cX9_formatOrder 105 = .ok (.ireturn, 1) := by decide +kernel
theorem dX9_formatLedger_0 : decode cX9_formatLedger 0 = .ok (.aload_n 0, 1) := by decide +kernel
theorem dX9_formatLedger_1 : decode cX9_formatLedger 1 = .ok (.iconst 0, 1) := by decide +kernel
theorem dX9_formatLedger_2 : decode cX9_formatLedger 2 = .ok (.putfield 30, 3) := by decide +kernel
theorem dX9_formatLedger_5 : decode cX9_formatLedger 5 = .ok (.aload_n 0, 1) := by decide +kernel
theorem dX9_formatLedger_6 : decode cX9_formatLedger 6 = .ok (.iconst 0, 1) := by decide +kernel
theorem dX9_formatLedger_7 : decode cX9_formatLedger 7 = .ok (.putfield 177, 3) := by decide +kernel
theorem dX9_formatLedger_10 : decode cX9_formatLedger 10 = .ok (.iconst 0, 1) := by decide +kernel
theorem dX9_formatLedger_11 : decode cX9_formatLedger 11 = .ok (.istore_n 1, 1) := by decide +kernel
theorem dX9_formatLedger_12 : decode cX9_formatLedger 12 = .ok (.iload_n 1, 1) := by decide +kernel
theorem dX9_formatLedger_13 : decode cX9_formatLedger 13 = .ok (.aload_n 0, 1) := by decide +kernel
theorem dX9_formatLedger_14 : decode cX9_formatLedger 14 = .ok (.getfield 9, 3) := by decide +kernel
theorem dX9_formatLedger_17 : decode cX9_formatLedger 17 = .ok (.bipush 13, 2) := by decide +kernel
theorem dX9_formatLedger_19 : decode cX9_formatLedger 19 = .ok (.iaload, 1) := by decide +kernel
theorem dX9_formatLedger_20 : decode cX9_formatLedger 20 = .ok (.if_icmp .ge 32, 3) := by decide +kernel
theorem dX9_formatLedger_23 : decode cX9_formatLedger 23 = .ok (.iload_n 1, 1) := by decide +kernel
theorem dX9_formatLedger_24 : decode cX9_formatLedger 24 = .ok (.ifCond .le 9, 3) := by decide +kernel
theorem dX9_formatLedger_27 : decode cX9_formatLedger 27 = .ok (.aload_n 0, 1) := by decide +kernel
theorem dX9_formatLedger_28 : decode cX9_formatLedger 28 = .ok (.bipush 32, 2) := by decide +kernel
theorem dX9_formatLedger_30 : decode cX9_formatLedger 30 = .ok (.invokevirtual 183, 3) := by decide +kernel
theorem dX9_formatLedger_33 : decode cX9_formatLedger 33 = .ok (.aload_n 0, 1) := by decide +kernel
theorem dX9_formatLedger_34 : decode cX9_formatLedger 34 = .ok (.aload_n 0, 1) := by decide +kernel
theorem dX9_formatLedger_35 : decode cX9_formatLedger 35 = .ok (.getfield 9, 3) := by decide +kernel
theorem dX9_formatLedger_38 : decode cX9_formatLedger 38 = .ok (.bipush 19, 2) := by decide +kernel
theorem dX9_formatLedger_40 : decode cX9_formatLedger 40 = .ok (.iload_n 1, 1) := by decide +kernel
theorem dX9_formatLedger_41 : decode cX9_formatLedger 41 = .ok (.iadd, 1) := by decide +kernel
theorem dX9_formatLedger_42 : decode cX9_formatLedger 42 = .ok (.iaload, 1) := by decide +kernel
theorem dX9_formatLedger_43 : decode cX9_formatLedger 43 = .ok (.invokevirtual 180, 3) := by decide +kernel
theorem dX9_formatLedger_46 : decode cX9_formatLedger 46 = .ok (.iinc 1 1, 3) := by decide +kernel
theorem dX9_formatLedger_49 : decode cX9_formatLedger 49 = .ok (.goto (-37), 3) := by decide +kernel
theorem dX9_formatLedger_52 : decode cX9_formatLedger 52 = .ok (.aload_n 0, 1) := by decide +kernel
theorem dX9_formatLedger_53 : decode cX9_formatLedger 53 = .ok (.getfield 177, 3) := by decide +kernel
theorem dX9_formatLedger_56 : decode cX9_formatLedger 56 = .ok (.ireturn, 1) := by decide +kernel
theorem dX9_lineChar_0 : decode cX9_lineChar 0 = .ok (.aload_n 0, 1) := by decide +kernel
theorem dX9_lineChar_1 : decode cX9_lineChar 1 = .ok (.iload_n 1, 1) := by decide +kernel
theorem dX9_lineChar_2 : decode cX9_lineChar 2 = .ok (.iconst 0, 1) := by decide +kernel
theorem dX9_lineChar_3 : decode cX9_lineChar 3 = .ok (.aload_n 0, 1) := by decide +kernel
theorem dX9_lineChar_4 : decode cX9_lineChar 4 = .ok (.getfield 177, 3) := by decide +kernel
theorem dX9_lineChar_7 : decode cX9_lineChar 7 = .ok (.iconst 1, 1) := by decide +kernel
theorem dX9_lineChar_8 : decode cX9_lineChar 8 = .ok (.isub, 1) := by decide +kernel
theorem dX9_lineChar_9 : decode cX9_lineChar 9 = .ok (.invokestatic 44, 3) := by decide +kernel
theorem dX9_lineChar_12 : decode cX9_lineChar 12 = .ok (.invokevirtual 149, 3) := by decide +kernel
theorem dX9_lineChar_15 : decode cX9_lineChar 15 = .ok (.ifCond .eq 12, 3) := by decide +kernel
theorem dX9_lineChar_18 : decode cX9_lineChar 18 = .ok (.aload_n 0, 1) := by decide +kernel
theorem dX9_lineChar_19 : decode cX9_lineChar 19 = .ok (.getfield 13, 3) := by decide +kernel
theorem dX9_lineChar_22 : decode cX9_lineChar 22 = .ok (.iload_n 1, 1) := by decide +kernel
theorem dX9_lineChar_23 : decode cX9_lineChar 23 = .ok (.caload, 1) := by decide +kernel
theorem dX9_lineChar_24 : decode cX9_lineChar 24 = .ok (.goto 4, 3) := by decide +kernel
theorem dX9_lineChar_27 : decode cX9_lineChar 27 = .ok (.iconst 0, 1) := by decide +kernel
theorem dX9_lineChar_28 : decode cX9_lineChar 28 = .ok (.ireturn, 1) := by decide +kernel
theorem dX9_append_0 : decode cX9_append 0 = .ok (.aload_n 0, 1) := by decide +kernel
theorem dX9_append_1 : decode cX9_append 1 = .ok (.iload_n 1, 1) := by decide +kernel
theorem dX9_append_2 : decode cX9_append 2 = .ok (.bipush 32, 2) := by decide +kernel
theorem dX9_append_4 : decode cX9_append 4 = .ok (.bipush 126, 2) := by decide +kernel
theorem dX9_append_6 : decode cX9_append 6 = .ok (.invokestatic 44, 3) := by decide +kernel
theorem dX9_append_9 : decode cX9_append 9 = .ok (.ifCond .ne 7, 3) := by decide +kernel
theorem dX9_append_12 : decode cX9_append 12 = .ok (.iconst 1, 1) := by decide +kernel
theorem dX9_append_13 : decode cX9_append 13 = .ok (.goto 17, 3) := by decide +kernel
theorem dX9_append_16 : decode cX9_append 16 = .ok (.aload_n 0, 1) := by decide +kernel
theorem dX9_append_17 : decode cX9_append 17 = .ok (.getfield 189, 3) := by decide +kernel
theorem dX9_append_20 : decode cX9_append 20 = .ok (.bipush 60, 2) := by decide +kernel
theorem dX9_append_22 : decode cX9_append 22 = .ok (.if_icmp .ne 7, 3) := by decide +kernel
theorem dX9_append_25 : decode cX9_append 25 = .ok (.iconst 2, 1) := by decide +kernel
theorem dX9_append_26 : decode cX9_append 26 = .ok (.goto 4, 3) := by decide +kernel
theorem dX9_append_29 : decode cX9_append 29 = .ok (.iconst 0, 1) := by decide +kernel
theorem dX9_append_30 : decode cX9_append 30 = .ok (.putfield 30, 3) := by decide +kernel
theorem dX9_append_33 : decode cX9_append 33 = .ok (.aload_n 0, 1) := by decide +kernel
theorem dX9_append_34 : decode cX9_append 34 = .ok (.getfield 30, 3) := by decide +kernel
theorem dX9_append_37 : decode cX9_append 37 = .ok (.ifCond .eq 5, 3) := by decide +kernel
theorem dX9_append_40 : decode cX9_append 40 = .ok (.iconst 0, 1) := by decide +kernel
theorem dX9_append_41 : decode cX9_append 41 = .ok (.ireturn, 1) := by decide +kernel
theorem dX9_append_42 : decode cX9_append 42 = .ok (.aload_n 0, 1) := by decide +kernel
theorem dX9_append_43 : decode cX9_append 43 = .ok (.getfield 17, 3) := by decide +kernel
theorem dX9_append_46 : decode cX9_append 46 = .ok (.aload_n 0, 1) := by decide +kernel
theorem dX9_append_47 : decode cX9_append 47 = .ok (.getfield 189, 3) := by decide +kernel
theorem dX9_append_50 : decode cX9_append 50 = .ok (.iload_n 1, 1) := by decide +kernel
theorem dX9_append_51 : decode cX9_append 51 = .ok (.castore, 1) := by decide +kernel
theorem dX9_append_52 : decode cX9_append 52 = .ok (.aload_n 0, 1) := by decide +kernel
theorem dX9_append_53 : decode cX9_append 53 = .ok (.dup, 1) := by decide +kernel
theorem dX9_append_54 : decode cX9_append 54 = .ok (.getfield 189, 3) := by decide +kernel
theorem dX9_append_57 : decode cX9_append 57 = .ok (.iconst 1, 1) := by decide +kernel
theorem dX9_append_58 : decode cX9_append 58 = .ok (.iadd, 1) := by decide +kernel
theorem dX9_append_59 : decode cX9_append 59 = .ok (.putfield 189, 3) := by decide +kernel
theorem dX9_append_62 : decode cX9_append 62 = .ok (.aload_n 0, 1) := by decide +kernel
theorem dX9_append_63 : decode cX9_append 63 = .ok (.getfield 189, 3) := by decide +kernel
theorem dX9_append_66 : decode cX9_append 66 = .ok (.ireturn, 1) := by decide +kernel
theorem dX9_sign_0 : decode cX9_sign 0 = .ok (.aload_n 0, 1) := by decide +kernel
theorem dX9_sign_1 : decode cX9_sign 1 = .ok (.getfield 192, 3) := by decide +kernel
theorem dX9_sign_4 : decode cX9_sign 4 = .ok (.aload_n 0, 1) := by decide +kernel
theorem dX9_sign_5 : decode cX9_sign 5 = .ok (.getfield 189, 3) := by decide +kernel
theorem dX9_sign_8 : decode cX9_sign 8 = .ok (.if_icmp .ge 15, 3) := by decide +kernel
theorem dX9_sign_11 : decode cX9_sign 11 = .ok (.aload_n 0, 1) := by decide +kernel
theorem dX9_sign_12 : decode cX9_sign 12 = .ok (.getfield 17, 3) := by decide +kernel
theorem dX9_sign_15 : decode cX9_sign 15 = .ok (.aload_n 0, 1) := by decide +kernel
theorem dX9_sign_16 : decode cX9_sign 16 = .ok (.getfield 192, 3) := by decide +kernel
theorem dX9_sign_19 : decode cX9_sign 19 = .ok (.caload, 1) := by decide +kernel
theorem dX9_sign_20 : decode cX9_sign 20 = .ok (.goto 4, 3) := by decide +kernel
theorem dX9_sign_23 : decode cX9_sign 23 = .ok (.iconst (-1), 1) := by decide +kernel
theorem dX9_sign_24 : decode cX9_sign 24 = .ok (.ireturn, 1) := by decide +kernel
theorem dX9_needs_0 : decode cX9_needs 0 = .ok (.aload_n 0, 1) := by decide +kernel
theorem dX9_needs_1 : decode cX9_needs 1 = .ok (.getfield 195, 3) := by decide +kernel
theorem dX9_needs_4 : decode cX9_needs 4 = .ok (.ifCond .lt 4, 3) := by decide +kernel
theorem dX9_needs_7 : decode cX9_needs 7 = .ok (.return_, 1) := by decide +kernel
theorem dX9_needs_8 : decode cX9_needs 8 = .ok (.aload_n 0, 1) := by decide +kernel
theorem dX9_needs_9 : decode cX9_needs 9 = .ok (.invokevirtual 198, 3) := by decide +kernel
theorem dX9_needs_12 : decode cX9_needs 12 = .ok (.iload_n 1, 1) := by decide +kernel
theorem dX9_needs_13 : decode cX9_needs 13 = .ok (.if_icmp .eq 12, 3) := by decide +kernel
theorem dX9_needs_16 : decode cX9_needs 16 = .ok (.aload_n 0, 1) := by decide +kernel
theorem dX9_needs_17 : decode cX9_needs 17 = .ok (.aload_n 0, 1) := by decide +kernel
theorem dX9_needs_18 : decode cX9_needs 18 = .ok (.getfield 192, 3) := by decide +kernel
theorem dX9_needs_21 : decode cX9_needs 21 = .ok (.putfield 195, 3) := by decide +kernel
theorem dX9_needs_24 : decode cX9_needs 24 = .ok (.return_, 1) := by decide +kernel
theorem dX9_needs_25 : decode cX9_needs 25 = .ok (.aload_n 0, 1) := by decide +kernel
theorem dX9_needs_26 : decode cX9_needs 26 = .ok (.dup, 1) := by decide +kernel
theorem dX9_needs_27 : decode cX9_needs 27 = .ok (.getfield 192, 3) := by decide +kernel
theorem dX9_needs_30 : decode cX9_needs 30 = .ok (.iconst 1, 1) := by decide +kernel
theorem dX9_needs_31 : decode cX9_needs 31 = .ok (.iadd, 1) := by decide +kernel
theorem dX9_needs_32 : decode cX9_needs 32 = .ok (.putfield 192, 3) := by decide +kernel
theorem dX9_needs_35 : decode cX9_needs 35 = .ok (.return_, 1) := by decide +kernel
theorem dX9_letters_0 : decode cX9_letters 0 = .ok (.aload_n 0, 1) := by decide +kernel
theorem dX9_letters_1 : decode cX9_letters 1 = .ok (.iload_n 1, 1) := by decide +kernel
theorem dX9_letters_2 : decode cX9_letters 2 = .ok (.invokevirtual 201, 3) := by decide +kernel
theorem dX9_letters_5 : decode cX9_letters 5 = .ok (.aload_n 0, 1) := by decide +kernel
theorem dX9_letters_6 : decode cX9_letters 6 = .ok (.iload_n 2, 1) := by decide +kernel
theorem dX9_letters_7 : decode cX9_letters 7 = .ok (.invokevirtual 201, 3) := by decide +kernel
theorem dX9_letters_10 : decode cX9_letters 10 = .ok (.aload_n 0, 1) := by decide +kernel
theorem dX9_letters_11 : decode cX9_letters 11 = .ok (.iload_n 3, 1) := by decide +kernel
theorem dX9_letters_12 : decode cX9_letters 12 = .ok (.invokevirtual 201, 3) := by decide +kernel
theorem dX9_letters_15 : decode cX9_letters 15 = .ok (.return_, 1) := by decide +kernel
theorem dX9_number_0 : decode cX9_number 0 = .ok (.aload_n 0, 1) := by decide +kernel
theorem dX9_number_1 : decode cX9_number 1 = .ok (.bipush 32, 2) := by decide +kernel
theorem dX9_number_3 : decode cX9_number 3 = .ok (.invokevirtual 201, 3) := by decide +kernel
theorem dX9_number_6 : decode cX9_number 6 = .ok (.aload_n 0, 1) := by decide +kernel
theorem dX9_number_7 : decode cX9_number 7 = .ok (.getfield 195, 3) := by decide +kernel
theorem dX9_number_10 : decode cX9_number 10 = .ok (.ifCond .lt 5, 3) := by decide +kernel
theorem dX9_number_13 : decode cX9_number 13 = .ok (.iconst 0, 1) := by decide +kernel
theorem dX9_number_14 : decode cX9_number 14 = .ok (.ireturn, 1) := by decide +kernel
theorem dX9_number_15 : decode cX9_number 15 = .ok (.aload_n 0, 1) := by decide +kernel
theorem dX9_number_16 : decode cX9_number 16 = .ok (.invokevirtual 198, 3) := by decide +kernel
theorem dX9_number_19 : decode cX9_number 19 = .ok (.bipush 48, 2) := by decide +kernel
theorem dX9_number_21 : decode cX9_number 21 = .ok (.bipush 57, 2) := by decide +kernel
theorem dX9_number_23 : decode cX9_number 23 = .ok (.invokestatic 44, 3) := by decide +kernel
theorem dX9_number_26 : decode cX9_number 26 = .ok (.ifCond .ne 13, 3) := by decide +kernel
theorem dX9_number_29 : decode cX9_number 29 = .ok (.aload_n 0, 1) := by decide +kernel
theorem dX9_number_30 : decode cX9_number 30 = .ok (.aload_n 0, 1) := by decide +kernel
theorem dX9_number_31 : decode cX9_number 31 = .ok (.getfield 192, 3) := by decide +kernel
theorem dX9_number_34 : decode cX9_number 34 = .ok (.putfield 195, 3) := by decide +kernel
theorem dX9_number_37 : decode cX9_number 37 = .ok (.iconst 0, 1) := by decide +kernel
theorem dX9_number_38 : decode cX9_number 38 = .ok (.ireturn, 1) := by decide +kernel
theorem dX9_number_39 : decode cX9_number 39 = .ok (.iconst 0, 1) := by decide +kernel
theorem dX9_number_40 : decode cX9_number 40 = .ok (.istore_n 2, 1) := by decide +kernel
theorem dX9_number_41 : decode cX9_number 41 = .ok (.iconst 0, 1) := by decide +kernel
theorem dX9_number_42 : decode cX9_number 42 = .ok (.istore_n 3, 1) := by decide +kernel
theorem dX9_number_43 : decode cX9_number 43 = .ok (.iload_n 3, 1) := by decide +kernel
theorem dX9_number_44 : decode cX9_number 44 = .ok (.iload_n 1, 1) := by decide +kernel
theorem dX9_number_45 : decode cX9_number 45 = .ok (.if_icmp .ge 46, 3) := by decide +kernel
theorem dX9_number_48 : decode cX9_number 48 = .ok (.aload_n 0, 1) := by decide +kernel
theorem dX9_number_49 : decode cX9_number 49 = .ok (.invokevirtual 198, 3) := by decide +kernel
theorem dX9_number_52 : decode cX9_number 52 = .ok (.bipush 48, 2) := by decide +kernel
theorem dX9_number_54 : decode cX9_number 54 = .ok (.bipush 57, 2) := by decide +kernel
theorem dX9_number_56 : decode cX9_number 56 = .ok (.invokestatic 44, 3) := by decide +kernel
theorem dX9_number_59 : decode cX9_number 59 = .ok (.ifCond .eq 32, 3) := by decide +kernel
theorem dX9_number_62 : decode cX9_number 62 = .ok (.bipush 10, 2) := by decide +kernel
theorem dX9_number_64 : decode cX9_number 64 = .ok (.iload_n 2, 1) := by decide +kernel
theorem dX9_number_65 : decode cX9_number 65 = .ok (.imul, 1) := by decide +kernel
theorem dX9_number_66 : decode cX9_number 66 = .ok (.aload_n 0, 1) := by decide +kernel
theorem dX9_number_67 : decode cX9_number 67 = .ok (.invokevirtual 198, 3) := by decide +kernel
theorem dX9_number_70 : decode cX9_number 70 = .ok (.iadd, 1) := by decide +kernel
theorem dX9_number_71 : decode cX9_number 71 = .ok (.bipush 48, 2) := by decide +kernel
theorem dX9_number_73 : decode cX9_number 73 = .ok (.isub, 1) := by decide +kernel
theorem dX9_number_74 : decode cX9_number 74 = .ok (.istore_n 2, 1) := by decide +kernel
theorem dX9_number_75 : decode cX9_number 75 = .ok (.aload_n 0, 1) := by decide +kernel
theorem dX9_number_76 : decode cX9_number 76 = .ok (.dup, 1) := by decide +kernel
theorem dX9_number_77 : decode cX9_number 77 = .ok (.getfield 192, 3) := by decide +kernel
theorem dX9_number_80 : decode cX9_number 80 = .ok (.iconst 1, 1) := by decide +kernel
theorem dX9_number_81 : decode cX9_number 81 = .ok (.iadd, 1) := by decide +kernel
theorem dX9_number_82 : decode cX9_number 82 = .ok (.putfield 192, 3) := by decide +kernel
theorem dX9_number_85 : decode cX9_number 85 = .ok (.iinc 3 1, 3) := by decide +kernel
theorem dX9_number_88 : decode cX9_number 88 = .ok (.goto (-45), 3) := by decide +kernel
theorem dX9_number_91 : decode cX9_number 91 = .ok (.iload_n 2, 1) := by decide +kernel
theorem dX9_number_92 : decode cX9_number 92 = .ok (.ireturn, 1) := by decide +kernel
theorem dX9_word_0 : decode cX9_word 0 = .ok (.iload_n 1, 1) := by decide +kernel
theorem dX9_word_1 : decode cX9_word 1 = .ok (.tableswitch 316 97 119 #[244, 145, 316, 316, 316, 132, 316, 316, 316, 316, 107, 225, 202, 316, 170, 316, 316, 316, 269, 316, 316, 316, 189], 107) := by decide +kernel
theorem dX9_word_108 : decode cX9_word 108 = .ok (.aload_n 0, 1) := by decide +kernel
theorem dX9_word_109 : decode cX9_word 109 = .ok (.bipush 101, 2) := by decide +kernel
theorem dX9_word_111 : decode cX9_word 111 = .ok (.bipush 116, 2) := by decide +kernel
theorem dX9_word_113 : decode cX9_word 113 = .ok (.bipush 116, 2) := by decide +kernel
theorem dX9_word_115 : decode cX9_word 115 = .ok (.invokevirtual 204, 3) := by decide +kernel
theorem dX9_word_118 : decode cX9_word 118 = .ok (.aload_n 0, 1) := by decide +kernel
theorem dX9_word_119 : decode cX9_word 119 = .ok (.bipush 108, 2) := by decide +kernel
theorem dX9_word_121 : decode cX9_word 121 = .ok (.invokevirtual 201, 3) := by decide +kernel
theorem dX9_word_124 : decode cX9_word 124 = .ok (.aload_n 0, 1) := by decide +kernel
theorem dX9_word_125 : decode cX9_word 125 = .ok (.bipush 101, 2) := by decide +kernel
theorem dX9_word_127 : decode cX9_word 127 = .ok (.invokevirtual 201, 3) := by decide +kernel
theorem dX9_word_130 : decode cX9_word 130 = .ok (.bipush 107, 2) := by decide +kernel
theorem dX9_word_132 : decode cX9_word 132 = .ok (.ireturn, 1) := by decide +kernel
theorem dX9_word_133 : decode cX9_word 133 = .ok (.aload_n 0, 1) := by decide +kernel
theorem dX9_word_134 : decode cX9_word 134 = .ok (.bipush 105, 2) := by decide +kernel
theorem dX9_word_136 : decode cX9_word 136 = .ok (.bipush 108, 2) := by decide +kernel
theorem dX9_word_138 : decode cX9_word 138 = .ok (.bipush 108, 2) := by decide +kernel
theorem dX9_word_140 : decode cX9_word 140 = .ok (.invokevirtual 204, 3) := by decide +kernel
theorem dX9_word_143 : decode cX9_word 143 = .ok (.bipush 102, 2) := by decide +kernel
theorem dX9_word_145 : decode cX9_word 145 = .ok (.ireturn, 1) := by decide +kernel
theorem dX9_word_146 : decode cX9_word 146 = .ok (.aload_n 0, 1) := by decide +kernel
theorem dX9_word_147 : decode cX9_word 147 = .ok (.bipush 117, 2) := by decide +kernel
theorem dX9_word_149 : decode cX9_word 149 = .ok (.bipush 114, 2) := by decide +kernel
theorem dX9_word_151 : decode cX9_word 151 = .ok (.bipush 110, 2) := by decide +kernel
theorem dX9_word_153 : decode cX9_word 153 = .ok (.invokevirtual 204, 3) := by decide +kernel
theorem dX9_word_156 : decode cX9_word 156 = .ok (.aload_n 0, 1) := by decide +kernel
theorem dX9_word_157 : decode cX9_word 157 = .ok (.bipush 101, 2) := by decide +kernel
theorem dX9_word_159 : decode cX9_word 159 = .ok (.invokevirtual 201, 3) := by decide +kernel
theorem dX9_word_162 : decode cX9_word 162 = .ok (.aload_n 0, 1) := by decide +kernel
theorem dX9_word_163 : decode cX9_word 163 = .ok (.bipush 114, 2) := by decide +kernel
theorem dX9_word_165 : decode cX9_word 165 = .ok (.invokevirtual 201, 3) := by decide +kernel
theorem dX9_word_168 : decode cX9_word 168 = .ok (.bipush 98, 2) := by decide +kernel
theorem dX9_word_170 : decode cX9_word 170 = .ok (.ireturn, 1) := by decide +kernel
theorem dX9_word_171 : decode cX9_word 171 = .ok (.aload_n 0, 1) := by decide +kernel
theorem dX9_word_172 : decode cX9_word 172 = .ok (.bipush 114, 2) := by decide +kernel
theorem dX9_word_174 : decode cX9_word 174 = .ok (.bipush 100, 2) := by decide +kernel
theorem dX9_word_176 : decode cX9_word 176 = .ok (.bipush 101, 2) := by decide +kernel
theorem dX9_word_178 : decode cX9_word 178 = .ok (.invokevirtual 204, 3) := by decide +kernel
theorem dX9_word_181 : decode cX9_word 181 = .ok (.aload_n 0, 1) := by decide +kernel
theorem dX9_word_182 : decode cX9_word 182 = .ok (.bipush 114, 2) := by decide +kernel
theorem dX9_word_184 : decode cX9_word 184 = .ok (.invokevirtual 201, 3) := by decide +kernel
theorem dX9_word_187 : decode cX9_word 187 = .ok (.bipush 111, 2) := by decide +kernel
theorem dX9_word_189 : decode cX9_word 189 = .ok (.ireturn, 1) := by decide +kernel
theorem dX9_word_190 : decode cX9_word 190 = .ok (.aload_n 0, 1) := by decide +kernel
theorem dX9_word_191 : decode cX9_word 191 = .ok (.bipush 97, 2) := by decide +kernel
theorem dX9_word_193 : decode cX9_word 193 = .ok (.bipush 115, 2) := by decide +kernel
theorem dX9_word_195 : decode cX9_word 195 = .ok (.bipush 104, 2) := by decide +kernel
theorem dX9_word_197 : decode cX9_word 197 = .ok (.invokevirtual 204, 3) := by decide +kernel
theorem dX9_word_200 : decode cX9_word 200 = .ok (.bipush 119, 2) := by decide +kernel
theorem dX9_word_202 : decode cX9_word 202 = .ok (.ireturn, 1) := by decide +kernel
theorem dX9_word_203 : decode cX9_word 203 = .ok (.aload_n 0, 1) := by decide +kernel
theorem dX9_word_204 : decode cX9_word 204 = .ok (.bipush 105, 2) := by decide +kernel
theorem dX9_word_206 : decode cX9_word 206 = .ok (.bipush 110, 2) := by decide +kernel
theorem dX9_word_208 : decode cX9_word 208 = .ok (.bipush 117, 2) := by decide +kernel
theorem dX9_word_210 : decode cX9_word 210 = .ok (.invokevirtual 204, 3) := by decide +kernel
theorem dX9_word_213 : decode cX9_word 213 = .ok (.aload_n 0, 1) := by decide +kernel
theorem dX9_word_214 : decode cX9_word 214 = .ok (.bipush 116, 2) := by decide +kernel
theorem dX9_word_216 : decode cX9_word 216 = .ok (.bipush 101, 2) := by decide +kernel
theorem dX9_word_218 : decode cX9_word 218 = .ok (.bipush 115, 2) := by decide +kernel
theorem dX9_word_220 : decode cX9_word 220 = .ok (.invokevirtual 204, 3) := by decide +kernel
theorem dX9_word_223 : decode cX9_word 223 = .ok (.bipush 109, 2) := by decide +kernel
theorem dX9_word_225 : decode cX9_word 225 = .ok (.ireturn, 1) := by decide +kernel
theorem dX9_word_226 : decode cX9_word 226 = .ok (.aload_n 0, 1) := by decide +kernel
theorem dX9_word_227 : decode cX9_word 227 = .ok (.bipush 105, 2) := by decide +kernel
theorem dX9_word_229 : decode cX9_word 229 = .ok (.bipush 116, 2) := by decide +kernel
theorem dX9_word_231 : decode cX9_word 231 = .ok (.bipush 114, 2) := by decide +kernel
theorem dX9_word_233 : decode cX9_word 233 = .ok (.invokevirtual 204, 3) := by decide +kernel
theorem dX9_word_236 : decode cX9_word 236 = .ok (.aload_n 0, 1) := by decide +kernel
theorem dX9_word_237 : decode cX9_word 237 = .ok (.bipush 101, 2) := by decide +kernel
theorem dX9_word_239 : decode cX9_word 239 = .ok (.invokevirtual 201, 3) := by decide +kernel
theorem dX9_word_242 : decode cX9_word 242 = .ok (.bipush 108, 2) := by decide +kernel
theorem dX9_word_244 : decode cX9_word 244 = .ok (.ireturn, 1) := by decide +kernel
theorem dX9_word_245 : decode cX9_word 245 = .ok (.aload_n 0, 1) := by decide +kernel
theorem dX9_word_246 : decode cX9_word 246 = .ok (.bipush 116, 2) := by decide +kernel
theorem dX9_word_248 : decode cX9_word 248 = .ok (.bipush 116, 2) := by decide +kernel
theorem dX9_word_250 : decode cX9_word 250 = .ok (.bipush 101, 2) := by decide +kernel
theorem dX9_word_252 : decode cX9_word 252 = .ok (.invokevirtual 204, 3) := by decide +kernel
theorem dX9_word_255 : decode cX9_word 255 = .ok (.aload_n 0, 1) := by decide +kernel
theorem dX9_word_256 : decode cX9_word 256 = .ok (.bipush 110, 2) := by decide +kernel
theorem dX9_word_258 : decode cX9_word 258 = .ok (.invokevirtual 201, 3) := by decide +kernel
theorem dX9_word_261 : decode cX9_word 261 = .ok (.aload_n 0, 1) := by decide +kernel
theorem dX9_word_262 : decode cX9_word 262 = .ok (.bipush 100, 2) := by decide +kernel
theorem dX9_word_264 : decode cX9_word 264 = .ok (.invokevirtual 201, 3) := by decide +kernel
theorem dX9_word_267 : decode cX9_word 267 = .ok (.bipush 97, 2) := by decide +kernel
theorem dX9_word_269 : decode cX9_word 269 = .ok (.ireturn, 1) := by decide +kernel
theorem dX9_word_270 : decode cX9_word 270 = .ok (.aload_n 0, 1) := by decide +kernel
theorem dX9_word_271 : decode cX9_word 271 = .ok (.invokevirtual 198, 3) := by decide +kernel
theorem dX9_word_274 : decode cX9_word 274 = .ok (.bipush 116, 2) := by decide +kernel
theorem dX9_word_276 : decode cX9_word 276 = .ok (.if_icmp .ne 22, 3) := by decide +kernel
theorem dX9_word_279 : decode cX9_word 279 = .ok (.aload_n 0, 1) := by decide +kernel
theorem dX9_word_280 : decode cX9_word 280 = .ok (.bipush 116, 2) := by decide +kernel
theorem dX9_word_282 : decode cX9_word 282 = .ok (.bipush 101, 2) := by decide +kernel
theorem dX9_word_284 : decode cX9_word 284 = .ok (.bipush 97, 2) := by decide +kernel
theorem dX9_word_286 : decode cX9_word 286 = .ok (.invokevirtual 204, 3) := by decide +kernel
theorem dX9_word_289 : decode cX9_word 289 = .ok (.aload_n 0, 1) := by decide +kernel
theorem dX9_word_290 : decode cX9_word 290 = .ok (.bipush 109, 2) := by decide +kernel
theorem dX9_word_292 : decode cX9_word 292 = .ok (.invokevirtual 201, 3) := by decide +kernel
theorem dX9_word_295 : decode cX9_word 295 = .ok (.bipush 116, 2) := by decide +kernel
theorem dX9_word_297 : decode cX9_word 297 = .ok (.ireturn, 1) := by decide +kernel
theorem dX9_word_298 : decode cX9_word 298 = .ok (.aload_n 0, 1) := by decide +kernel
theorem dX9_word_299 : decode cX9_word 299 = .ok (.bipush 101, 2) := by decide +kernel
theorem dX9_word_301 : decode cX9_word 301 = .ok (.bipush 114, 2) := by decide +kernel
theorem dX9_word_303 : decode cX9_word 303 = .ok (.bipush 118, 2) := by decide +kernel
theorem dX9_word_305 : decode cX9_word 305 = .ok (.invokevirtual 204, 3) := by decide +kernel
theorem dX9_word_308 : decode cX9_word 308 = .ok (.aload_n 0, 1) := by decide +kernel
theorem dX9_word_309 : decode cX9_word 309 = .ok (.bipush 101, 2) := by decide +kernel
theorem dX9_word_311 : decode cX9_word 311 = .ok (.invokevirtual 201, 3) := by decide +kernel
theorem dX9_word_314 : decode cX9_word 314 = .ok (.bipush 115, 2) := by decide +kernel
theorem dX9_word_316 : decode cX9_word 316 = .ok (.ireturn, 1) := by decide +kernel
theorem dX9_word_317 : decode cX9_word 317 = .ok (.aload_n 0, 1) := by decide +kernel
theorem dX9_word_318 : decode cX9_word 318 = .ok (.invokevirtual 198, 3) := by decide +kernel
theorem dX9_word_321 : decode cX9_word 321 = .ok (.bipush 108, 2) := by decide +kernel
theorem dX9_word_323 : decode cX9_word 323 = .ok (.if_icmp .ne 22, 3) := by decide +kernel
theorem dX9_word_326 : decode cX9_word 326 = .ok (.aload_n 0, 1) := by decide +kernel
theorem dX9_word_327 : decode cX9_word 327 = .ok (.bipush 108, 2) := by decide +kernel
theorem dX9_word_329 : decode cX9_word 329 = .ok (.bipush 111, 2) := by decide +kernel
theorem dX9_word_331 : decode cX9_word 331 = .ok (.bipush 115, 2) := by decide +kernel
theorem dX9_word_333 : decode cX9_word 333 = .ok (.invokevirtual 204, 3) := by decide +kernel
theorem dX9_word_336 : decode cX9_word 336 = .ok (.aload_n 0, 1) := by decide +kernel
theorem dX9_word_337 : decode cX9_word 337 = .ok (.bipush 101, 2) := by decide +kernel
theorem dX9_word_339 : decode cX9_word 339 = .ok (.invokevirtual 201, 3) := by decide +kernel
theorem dX9_word_342 : decode cX9_word 342 = .ok (.bipush 122, 2) := by decide +kernel
theorem dX9_word_344 : decode cX9_word 344 = .ok (.ireturn, 1) := by decide +kernel
theorem dX9_word_345 : decode cX9_word 345 = .ok (.aload_n 0, 1) := by decide +kernel
theorem dX9_word_346 : decode cX9_word 346 = .ok (.invokevirtual 198, 3) := by decide +kernel
theorem dX9_word_349 : decode cX9_word 349 = .ok (.bipush 117, 2) := by decide +kernel
theorem dX9_word_351 : decode cX9_word 351 = .ok (.if_icmp .ne 18, 3) := by decide +kernel
theorem dX9_word_354 : decode cX9_word 354 = .ok (.aload_n 0, 1) := by decide +kernel
theorem dX9_word_355 : decode cX9_word 355 = .ok (.bipush 117, 2) := by decide +kernel
theorem dX9_word_357 : decode cX9_word 357 = .ok (.invokevirtual 201, 3) := by decide +kernel
theorem dX9_word_360 : decode cX9_word 360 = .ok (.aload_n 0, 1) := by decide +kernel
theorem dX9_word_361 : decode cX9_word 361 = .ok (.bipush 112, 2) := by decide +kernel
theorem dX9_word_363 : decode cX9_word 363 = .ok (.invokevirtual 201, 3) := by decide +kernel
theorem dX9_word_366 : decode cX9_word 366 = .ok (.bipush 117, 2) := by decide +kernel
theorem dX9_word_368 : decode cX9_word 368 = .ok (.ireturn, 1) := by decide +kernel
theorem dX9_word_369 : decode cX9_word 369 = .ok (.aload_n 0, 1) := by decide +kernel
theorem dX9_word_370 : decode cX9_word 370 = .ok (.bipush 97, 2) := by decide +kernel
theorem dX9_word_372 : decode cX9_word 372 = .ok (.bipush 110, 2) := by decide +kernel
theorem dX9_word_374 : decode cX9_word 374 = .ok (.bipush 99, 2) := by decide +kernel
theorem dX9_word_376 : decode cX9_word 376 = .ok (.invokevirtual 204, 3) := by decide +kernel
theorem dX9_word_379 : decode cX9_word 379 = .ok (.aload_n 0, 1) := by decide +kernel
theorem dX9_word_380 : decode cX9_word 380 = .ok (.bipush 101, 2) := by decide +kernel
theorem dX9_word_382 : decode cX9_word 382 = .ok (.invokevirtual 201, 3) := by decide +kernel
theorem dX9_word_385 : decode cX9_word 385 = .ok (.aload_n 0, 1) := by decide +kernel
theorem dX9_word_386 : decode cX9_word 386 = .ok (.bipush 108, 2) := by decide +kernel
theorem dX9_word_388 : decode cX9_word 388 = .ok (.invokevirtual 201, 3) := by decide +kernel
theorem dX9_word_391 : decode cX9_word 391 = .ok (.bipush 99, 2) := by decide +kernel
theorem dX9_word_393 : decode cX9_word 393 = .ok (.ireturn, 1) := by decide +kernel
theorem dX9_command_0 : decode cX9_command 0 = .ok (.iconst 5, 1) := by decide +kernel
theorem dX9_command_1 : decode cX9_command 1 = .ok (.aload_n 0, 1) := by decide +kernel
theorem dX9_command_2 : decode cX9_command 2 = .ok (.getfield 207, 3) := by decide +kernel
theorem dX9_command_5 : decode cX9_command 5 = .ok (.imul, 1) := by decide +kernel
theorem dX9_command_6 : decode cX9_command 6 = .ok (.istore_n 1, 1) := by decide +kernel
theorem dX9_command_7 : decode cX9_command 7 = .ok (.aload_n 0, 1) := by decide +kernel
theorem dX9_command_8 : decode cX9_command 8 = .ok (.dup, 1) := by decide +kernel
theorem dX9_command_9 : decode cX9_command 9 = .ok (.getfield 207, 3) := by decide +kernel
theorem dX9_command_12 : decode cX9_command 12 = .ok (.iconst 1, 1) := by decide +kernel
theorem dX9_command_13 : decode cX9_command 13 = .ok (.iadd, 1) := by decide +kernel
theorem dX9_command_14 : decode cX9_command 14 = .ok (.putfield 207, 3) := by decide +kernel
theorem dX9_command_17 : decode cX9_command 17 = .ok (.aload_n 0, 1) := by decide +kernel
theorem dX9_command_18 : decode cX9_command 18 = .ok (.invokevirtual 198, 3) := by decide +kernel
theorem dX9_command_21 : decode cX9_command 21 = .ok (.istore_n 2, 1) := by decide +kernel
theorem dX9_command_22 : decode cX9_command 22 = .ok (.iconst 0, 1) := by decide +kernel
theorem dX9_command_23 : decode cX9_command 23 = .ok (.istore_n 3, 1) := by decide +kernel
theorem dX9_command_24 : decode cX9_command 24 = .ok (.iload_n 3, 1) := by decide +kernel
theorem dX9_command_25 : decode cX9_command 25 = .ok (.iconst 5, 1) := by decide +kernel
theorem dX9_command_26 : decode cX9_command 26 = .ok (.if_icmp .ge 18, 3) := by decide +kernel
theorem dX9_command_29 : decode cX9_command 29 = .ok (.aload_n 0, 1) := by decide +kernel
theorem dX9_command_30 : decode cX9_command 30 = .ok (.getfield 27, 3) := by decide +kernel
theorem dX9_command_33 : decode cX9_command 33 = .ok (.iload_n 1, 1) := by decide +kernel
theorem dX9_command_34 : decode cX9_command 34 = .ok (.iload_n 3, 1) := by decide +kernel
theorem dX9_command_35 : decode cX9_command 35 = .ok (.iadd, 1) := by decide +kernel
theorem dX9_command_36 : decode cX9_command 36 = .ok (.iconst 0, 1) := by decide +kernel
theorem dX9_command_37 : decode cX9_command 37 = .ok (.iastore, 1) := by decide +kernel
theorem dX9_command_38 : decode cX9_command 38 = .ok (.iinc 3 1, 3) := by decide +kernel
theorem dX9_command_41 : decode cX9_command 41 = .ok (.goto (-17), 3) := by decide +kernel
theorem dX9_command_44 : decode cX9_command 44 = .ok (.iload_n 2, 1) := by decide +kernel
theorem dX9_command_45 : decode cX9_command 45 = .ok (.bipush 107, 2) := by decide +kernel
theorem dX9_command_47 : decode cX9_command 47 = .ok (.if_icmp .eq 66, 3) := by decide +kernel
theorem dX9_command_50 : decode cX9_command 50 = .ok (.iload_n 2, 1) := by decide +kernel
theorem dX9_command_51 : decode cX9_command 51 = .ok (.bipush 102, 2) := by decide +kernel
theorem dX9_command_53 : decode cX9_command 53 = .ok (.if_icmp .eq 60, 3) := by decide +kernel
theorem dX9_command_56 : decode cX9_command 56 = .ok (.iload_n 2, 1) := by decide +kernel
theorem dX9_command_57 : decode cX9_command 57 = .ok (.bipush 98, 2) := by decide +kernel
theorem dX9_command_59 : decode cX9_command 59 = .ok (.if_icmp .eq 54, 3) := by decide +kernel
theorem dX9_command_62 : decode cX9_command 62 = .ok (.iload_n 2, 1) := by decide +kernel
theorem dX9_command_63 : decode cX9_command 63 = .ok (.bipush 111, 2) := by decide +kernel
theorem dX9_command_65 : decode cX9_command 65 = .ok (.if_icmp .eq 48, 3) := by decide +kernel
theorem dX9_command_68 : decode cX9_command 68 = .ok (.iload_n 2, 1) := by decide +kernel
theorem dX9_command_69 : decode cX9_command 69 = .ok (.bipush 99, 2) := by decide +kernel
theorem dX9_command_71 : decode cX9_command 71 = .ok (.if_icmp .eq 42, 3) := by decide +kernel
theorem dX9_command_74 : decode cX9_command 74 = .ok (.iload_n 2, 1) := by decide +kernel
theorem dX9_command_75 : decode cX9_command 75 = .ok (.bipush 115, 2) := by decide +kernel
theorem dX9_command_77 : decode cX9_command 77 = .ok (.if_icmp .eq 36, 3) := by decide +kernel
theorem dX9_command_80 : decode cX9_command 80 = .ok (.iload_n 2, 1) := by decide +kernel
theorem dX9_command_81 : decode cX9_command 81 = .ok (.bipush 119, 2) := by decide +kernel
theorem dX9_command_83 : decode cX9_command 83 = .ok (.if_icmp .eq 30, 3) := by decide +kernel
theorem dX9_command_86 : decode cX9_command 86 = .ok (.iload_n 2, 1) := by decide +kernel
theorem dX9_command_87 : decode cX9_command 87 = .ok (.bipush 109, 2) := by decide +kernel
theorem dX9_command_89 : decode cX9_command 89 = .ok (.if_icmp .eq 24, 3) := by decide +kernel
theorem dX9_command_92 : decode cX9_command 92 = .ok (.iload_n 2, 1) := by decide +kernel
theorem dX9_command_93 : decode cX9_command 93 = .ok (.bipush 108, 2) := by decide +kernel
theorem dX9_command_95 : decode cX9_command 95 = .ok (.if_icmp .eq 18, 3) := by decide +kernel
theorem dX9_command_98 : decode cX9_command 98 = .ok (.iload_n 2, 1) := by decide +kernel
theorem dX9_command_99 : decode cX9_command 99 = .ok (.bipush 97, 2) := by decide +kernel
theorem dX9_command_101 : decode cX9_command 101 = .ok (.if_icmp .eq 12, 3) := by decide +kernel
theorem dX9_command_104 : decode cX9_command 104 = .ok (.aload_n 0, 1) := by decide +kernel
theorem dX9_command_105 : decode cX9_command 105 = .ok (.aload_n 0, 1) := by decide +kernel
theorem dX9_command_106 : decode cX9_command 106 = .ok (.getfield 192, 3) := by decide +kernel
theorem dX9_command_109 : decode cX9_command 109 = .ok (.putfield 195, 3) := by decide +kernel
theorem dX9_command_112 : decode cX9_command 112 = .ok (.return_, 1) := by decide +kernel
theorem dX9_command_113 : decode cX9_command 113 = .ok (.aload_n 0, 1) := by decide +kernel
theorem dX9_command_114 : decode cX9_command 114 = .ok (.dup, 1) := by decide +kernel
theorem dX9_command_115 : decode cX9_command 115 = .ok (.getfield 192, 3) := by decide +kernel
theorem dX9_command_118 : decode cX9_command 118 = .ok (.iconst 1, 1) := by decide +kernel
theorem dX9_command_119 : decode cX9_command 119 = .ok (.iadd, 1) := by decide +kernel
theorem dX9_command_120 : decode cX9_command 120 = .ok (.putfield 192, 3) := by decide +kernel
theorem dX9_command_123 : decode cX9_command 123 = .ok (.aload_n 0, 1) := by decide +kernel
theorem dX9_command_124 : decode cX9_command 124 = .ok (.iload_n 2, 1) := by decide +kernel
theorem dX9_command_125 : decode cX9_command 125 = .ok (.invokevirtual 210, 3) := by decide +kernel
theorem dX9_command_128 : decode cX9_command 128 = .ok (.istore_n 3, 1) := by decide +kernel
theorem dX9_command_129 : decode cX9_command 129 = .ok (.aload_n 0, 1) := by decide +kernel
theorem dX9_command_130 : decode cX9_command 130 = .ok (.getfield 27, 3) := by decide +kernel
theorem dX9_command_133 : decode cX9_command 133 = .ok (.iload_n 1, 1) := by decide +kernel
theorem dX9_command_134 : decode cX9_command 134 = .ok (.iload_n 3, 1) := by decide +kernel
theorem dX9_command_135 : decode cX9_command 135 = .ok (.iastore, 1) := by decide +kernel
theorem dX9_command_136 : decode cX9_command 136 = .ok (.iload_n 3, 1) := by decide +kernel
theorem dX9_command_137 : decode cX9_command 137 = .ok (.lookupswitch 191 #[(97, 62), (98, 107), (102, 78), (111, 136), (115, 59), (122, 59)], 59) := by decide +kernel
theorem dX9_command_196 : decode cX9_command 196 = .ok (.goto 145, 3) := by decide +kernel
theorem dX9_command_199 : decode cX9_command 199 = .ok (.aload_n 0, 1) := by decide +kernel
theorem dX9_command_200 : decode cX9_command 200 = .ok (.getfield 27, 3) := by decide +kernel
theorem dX9_command_203 : decode cX9_command 203 = .ok (.iload_n 1, 1) := by decide +kernel
theorem dX9_command_204 : decode cX9_command 204 = .ok (.iconst 1, 1) := by decide +kernel
theorem dX9_command_205 : decode cX9_command 205 = .ok (.iadd, 1) := by decide +kernel
theorem dX9_command_206 : decode cX9_command 206 = .ok (.aload_n 0, 1) := by decide +kernel
theorem dX9_command_207 : decode cX9_command 207 = .ok (.iconst 1, 1) := by decide +kernel
theorem dX9_command_208 : decode cX9_command 208 = .ok (.invokevirtual 213, 3) := by decide +kernel
theorem dX9_command_211 : decode cX9_command 211 = .ok (.iastore, 1) := by decide +kernel
theorem dX9_command_212 : decode cX9_command 212 = .ok (.goto 129, 3) := by decide +kernel
theorem dX9_command_215 : decode cX9_command 215 = .ok (.aload_n 0, 1) := by decide +kernel
theorem dX9_command_216 : decode cX9_command 216 = .ok (.getfield 27, 3) := by decide +kernel
theorem dX9_command_219 : decode cX9_command 219 = .ok (.iload_n 1, 1) := by decide +kernel
theorem dX9_command_220 : decode cX9_command 220 = .ok (.iconst 1, 1) := by decide +kernel
theorem dX9_command_221 : decode cX9_command 221 = .ok (.iadd, 1) := by decide +kernel
theorem dX9_command_222 : decode cX9_command 222 = .ok (.aload_n 0, 1) := by decide +kernel
theorem dX9_command_223 : decode cX9_command 223 = .ok (.iconst 1, 1) := by decide +kernel
theorem dX9_command_224 : decode cX9_command 224 = .ok (.invokevirtual 213, 3) := by decide +kernel
theorem dX9_command_227 : decode cX9_command 227 = .ok (.iastore, 1) := by decide +kernel
theorem dX9_command_228 : decode cX9_command 228 = .ok (.aload_n 0, 1) := by decide +kernel
theorem dX9_command_229 : decode cX9_command 229 = .ok (.getfield 27, 3) := by decide +kernel
theorem dX9_command_232 : decode cX9_command 232 = .ok (.iload_n 1, 1) := by decide +kernel
theorem dX9_command_233 : decode cX9_command 233 = .ok (.iconst 2, 1) := by decide +kernel
theorem dX9_command_234 : decode cX9_command 234 = .ok (.iadd, 1) := by decide +kernel
theorem dX9_command_235 : decode cX9_command 235 = .ok (.aload_n 0, 1) := by decide +kernel
theorem dX9_command_236 : decode cX9_command 236 = .ok (.iconst 3, 1) := by decide +kernel
theorem dX9_command_237 : decode cX9_command 237 = .ok (.invokevirtual 213, 3) := by decide +kernel
theorem dX9_command_240 : decode cX9_command 240 = .ok (.iastore, 1) := by decide +kernel
theorem dX9_command_241 : decode cX9_command 241 = .ok (.goto 100, 3) := by decide +kernel
theorem dX9_command_244 : decode cX9_command 244 = .ok (.aload_n 0, 1) := by decide +kernel
theorem dX9_command_245 : decode cX9_command 245 = .ok (.getfield 27, 3) := by decide +kernel
theorem dX9_command_248 : decode cX9_command 248 = .ok (.iload_n 1, 1) := by decide +kernel
theorem dX9_command_249 : decode cX9_command 249 = .ok (.iconst 1, 1) := by decide +kernel
theorem dX9_command_250 : decode cX9_command 250 = .ok (.iadd, 1) := by decide +kernel
theorem dX9_command_251 : decode cX9_command 251 = .ok (.aload_n 0, 1) := by decide +kernel
theorem dX9_command_252 : decode cX9_command 252 = .ok (.iconst 1, 1) := by decide +kernel
theorem dX9_command_253 : decode cX9_command 253 = .ok (.invokevirtual 213, 3) := by decide +kernel
theorem dX9_command_256 : decode cX9_command 256 = .ok (.iastore, 1) := by decide +kernel
theorem dX9_command_257 : decode cX9_command 257 = .ok (.aload_n 0, 1) := by decide +kernel
theorem dX9_command_258 : decode cX9_command 258 = .ok (.getfield 27, 3) := by decide +kernel
theorem dX9_command_261 : decode cX9_command 261 = .ok (.iload_n 1, 1) := by decide +kernel
theorem dX9_command_262 : decode cX9_command 262 = .ok (.iconst 2, 1) := by decide +kernel
theorem dX9_command_263 : decode cX9_command 263 = .ok (.iadd, 1) := by decide +kernel
theorem dX9_command_264 : decode cX9_command 264 = .ok (.aload_n 0, 1) := by decide +kernel
theorem dX9_command_265 : decode cX9_command 265 = .ok (.iconst 1, 1) := by decide +kernel
theorem dX9_command_266 : decode cX9_command 266 = .ok (.invokevirtual 213, 3) := by decide +kernel
theorem dX9_command_269 : decode cX9_command 269 = .ok (.iastore, 1) := by decide +kernel
theorem dX9_command_270 : decode cX9_command 270 = .ok (.goto 71, 3) := by decide +kernel
theorem dX9_command_273 : decode cX9_command 273 = .ok (.aload_n 0, 1) := by decide +kernel
theorem dX9_command_274 : decode cX9_command 274 = .ok (.getfield 27, 3) := by decide +kernel
theorem dX9_command_277 : decode cX9_command 277 = .ok (.iload_n 1, 1) := by decide +kernel
theorem dX9_command_278 : decode cX9_command 278 = .ok (.iconst 1, 1) := by decide +kernel
theorem dX9_command_279 : decode cX9_command 279 = .ok (.iadd, 1) := by decide +kernel
theorem dX9_command_280 : decode cX9_command 280 = .ok (.aload_n 0, 1) := by decide +kernel
theorem dX9_command_281 : decode cX9_command 281 = .ok (.iconst 1, 1) := by decide +kernel
theorem dX9_command_282 : decode cX9_command 282 = .ok (.invokevirtual 213, 3) := by decide +kernel
theorem dX9_command_285 : decode cX9_command 285 = .ok (.iastore, 1) := by decide +kernel
theorem dX9_command_286 : decode cX9_command 286 = .ok (.aload_n 0, 1) := by decide +kernel
theorem dX9_command_287 : decode cX9_command 287 = .ok (.getfield 27, 3) := by decide +kernel
theorem dX9_command_290 : decode cX9_command 290 = .ok (.iload_n 1, 1) := by decide +kernel
theorem dX9_command_291 : decode cX9_command 291 = .ok (.iconst 2, 1) := by decide +kernel
theorem dX9_command_292 : decode cX9_command 292 = .ok (.iadd, 1) := by decide +kernel
theorem dX9_command_293 : decode cX9_command 293 = .ok (.aload_n 0, 1) := by decide +kernel
theorem dX9_command_294 : decode cX9_command 294 = .ok (.iconst 1, 1) := by decide +kernel
theorem dX9_command_295 : decode cX9_command 295 = .ok (.invokevirtual 213, 3) := by decide +kernel
theorem dX9_command_298 : decode cX9_command 298 = .ok (.iastore, 1) := by decide +kernel
theorem dX9_command_299 : decode cX9_command 299 = .ok (.aload_n 0, 1) := by decide +kernel
theorem dX9_command_300 : decode cX9_command 300 = .ok (.getfield 27, 3) := by decide +kernel
theorem dX9_command_303 : decode cX9_command 303 = .ok (.iload_n 1, 1) := by decide +kernel
theorem dX9_command_304 : decode cX9_command 304 = .ok (.iconst 3, 1) := by decide +kernel
theorem dX9_command_305 : decode cX9_command 305 = .ok (.iadd, 1) := by decide +kernel
theorem dX9_command_306 : decode cX9_command 306 = .ok (.aload_n 0, 1) := by decide +kernel
theorem dX9_command_307 : decode cX9_command 307 = .ok (.iconst 3, 1) := by decide +kernel
theorem dX9_command_308 : decode cX9_command 308 = .ok (.invokevirtual 213, 3) := by decide +kernel
theorem dX9_command_311 : decode cX9_command 311 = .ok (.iastore, 1) := by decide +kernel
theorem dX9_command_312 : decode cX9_command 312 = .ok (.aload_n 0, 1) := by decide +kernel
theorem dX9_command_313 : decode cX9_command 313 = .ok (.getfield 27, 3) := by decide +kernel
theorem dX9_command_316 : decode cX9_command 316 = .ok (.iload_n 1, 1) := by decide +kernel
theorem dX9_command_317 : decode cX9_command 317 = .ok (.iconst 4, 1) := by decide +kernel
theorem dX9_command_318 : decode cX9_command 318 = .ok (.iadd, 1) := by decide +kernel
theorem dX9_command_319 : decode cX9_command 319 = .ok (.aload_n 0, 1) := by decide +kernel
theorem dX9_command_320 : decode cX9_command 320 = .ok (.iconst 1, 1) := by decide +kernel
theorem dX9_command_321 : decode cX9_command 321 = .ok (.invokevirtual 213, 3) := by decide +kernel
theorem dX9_command_324 : decode cX9_command 324 = .ok (.iastore, 1) := by decide +kernel
theorem dX9_command_325 : decode cX9_command 325 = .ok (.goto 16, 3) := by decide +kernel
theorem dX9_command_328 : decode cX9_command 328 = .ok (.aload_n 0, 1) := by decide +kernel
theorem dX9_command_329 : decode cX9_command 329 = .ok (.getfield 27, 3) := by decide +kernel
theorem dX9_command_332 : decode cX9_command 332 = .ok (.iload_n 1, 1) := by decide +kernel
theorem dX9_command_333 : decode cX9_command 333 = .ok (.iconst 1, 1) := by decide +kernel
theorem dX9_command_334 : decode cX9_command 334 = .ok (.iadd, 1) := by decide +kernel
theorem dX9_command_335 : decode cX9_command 335 = .ok (.aload_n 0, 1) := by decide +kernel
theorem dX9_command_336 : decode cX9_command 336 = .ok (.iconst 3, 1) := by decide +kernel
theorem dX9_command_337 : decode cX9_command 337 = .ok (.invokevirtual 213, 3) := by decide +kernel
theorem dX9_command_340 : decode cX9_command 340 = .ok (.iastore, 1) := by decide +kernel
theorem dX9_command_341 : decode cX9_command 341 = .ok (.return_, 1) := by decide +kernel
theorem dX9_parse_0 : decode cX9_parse 0 = .ok (.aload_n 0, 1) := by decide +kernel
theorem dX9_parse_1 : decode cX9_parse 1 = .ok (.iconst 0, 1) := by decide +kernel
theorem dX9_parse_2 : decode cX9_parse 2 = .ok (.putfield 192, 3) := by decide +kernel
theorem dX9_parse_5 : decode cX9_parse 5 = .ok (.aload_n 0, 1) := by decide +kernel
theorem dX9_parse_6 : decode cX9_parse 6 = .ok (.iconst (-1), 1) := by decide +kernel
theorem dX9_parse_7 : decode cX9_parse 7 = .ok (.putfield 195, 3) := by decide +kernel
theorem dX9_parse_10 : decode cX9_parse 10 = .ok (.aload_n 0, 1) := by decide +kernel
theorem dX9_parse_11 : decode cX9_parse 11 = .ok (.iconst 0, 1) := by decide +kernel
theorem dX9_parse_12 : decode cX9_parse 12 = .ok (.putfield 207, 3) := by decide +kernel
theorem dX9_parse_15 : decode cX9_parse 15 = .ok (.aload_n 0, 1) := by decide +kernel
theorem dX9_parse_16 : decode cX9_parse 16 = .ok (.invokevirtual 216, 3) := by decide +kernel
theorem dX9_parse_19 : decode cX9_parse 19 = .ok (.aload_n 0, 1) := by decide +kernel
theorem dX9_parse_20 : decode cX9_parse 20 = .ok (.getfield 195, 3) := by decide +kernel
theorem dX9_parse_23 : decode cX9_parse 23 = .ok (.ifCond .ge 29, 3) := by decide +kernel
theorem dX9_parse_26 : decode cX9_parse 26 = .ok (.aload_n 0, 1) := by decide +kernel
theorem dX9_parse_27 : decode cX9_parse 27 = .ok (.invokevirtual 198, 3) := by decide +kernel
theorem dX9_parse_30 : decode cX9_parse 30 = .ok (.bipush 59, 2) := by decide +kernel
theorem dX9_parse_32 : decode cX9_parse 32 = .ok (.if_icmp .ne 20, 3) := by decide +kernel
theorem dX9_parse_35 : decode cX9_parse 35 = .ok (.aload_n 0, 1) := by decide +kernel
theorem dX9_parse_36 : decode cX9_parse 36 = .ok (.dup, 1) := by decide +kernel
theorem dX9_parse_37 : decode cX9_parse 37 = .ok (.getfield 192, 3) := by decide +kernel
theorem dX9_parse_40 : decode cX9_parse 40 = .ok (.iconst 1, 1) := by decide +kernel
theorem dX9_parse_41 : decode cX9_parse 41 = .ok (.iadd, 1) := by decide +kernel
theorem dX9_parse_42 : decode cX9_parse 42 = .ok (.putfield 192, 3) := by decide +kernel
theorem dX9_parse_45 : decode cX9_parse 45 = .ok (.aload_n 0, 1) := by decide +kernel
theorem dX9_parse_46 : decode cX9_parse 46 = .ok (.invokevirtual 216, 3) := by decide +kernel
theorem dX9_parse_49 : decode cX9_parse 49 = .ok (.goto (-30), 3) := by decide +kernel
theorem dX9_parse_52 : decode cX9_parse 52 = .ok (.aload_n 0, 1) := by decide +kernel
theorem dX9_parse_53 : decode cX9_parse 53 = .ok (.getfield 195, 3) := by decide +kernel
theorem dX9_parse_56 : decode cX9_parse 56 = .ok (.ifCond .ge 22, 3) := by decide +kernel
theorem dX9_parse_59 : decode cX9_parse 59 = .ok (.aload_n 0, 1) := by decide +kernel
theorem dX9_parse_60 : decode cX9_parse 60 = .ok (.getfield 192, 3) := by decide +kernel
theorem dX9_parse_63 : decode cX9_parse 63 = .ok (.aload_n 0, 1) := by decide +kernel
theorem dX9_parse_64 : decode cX9_parse 64 = .ok (.getfield 189, 3) := by decide +kernel
theorem dX9_parse_67 : decode cX9_parse 67 = .ok (.if_icmp .ge 11, 3) := by decide +kernel
theorem dX9_parse_70 : decode cX9_parse 70 = .ok (.aload_n 0, 1) := by decide +kernel
theorem dX9_parse_71 : decode cX9_parse 71 = .ok (.aload_n 0, 1) := by decide +kernel
theorem dX9_parse_72 : decode cX9_parse 72 = .ok (.getfield 192, 3) := by decide +kernel
theorem dX9_parse_75 : decode cX9_parse 75 = .ok (.putfield 195, 3) := by decide +kernel
theorem dX9_parse_78 : decode cX9_parse 78 = .ok (.return_, 1) := by decide +kernel
theorem dX9_does_0 : decode cX9_does 0 = .ok (.aload_n 0, 1) := by decide +kernel
theorem dX9_does_1 : decode cX9_does 1 = .ok (.getfield 27, 3) := by decide +kernel
theorem dX9_does_4 : decode cX9_does 4 = .ok (.iload_n 1, 1) := by decide +kernel
theorem dX9_does_5 : decode cX9_does 5 = .ok (.iconst 1, 1) := by decide +kernel
theorem dX9_does_6 : decode cX9_does 6 = .ok (.iadd, 1) := by decide +kernel
theorem dX9_does_7 : decode cX9_does 7 = .ok (.iaload, 1) := by decide +kernel
theorem dX9_does_8 : decode cX9_does 8 = .ok (.istore_n 2, 1) := by decide +kernel
theorem dX9_does_9 : decode cX9_does 9 = .ok (.aload_n 0, 1) := by decide +kernel
theorem dX9_does_10 : decode cX9_does 10 = .ok (.getfield 27, 3) := by decide +kernel
theorem dX9_does_13 : decode cX9_does 13 = .ok (.iload_n 1, 1) := by decide +kernel
theorem dX9_does_14 : decode cX9_does 14 = .ok (.iconst 2, 1) := by decide +kernel
theorem dX9_does_15 : decode cX9_does 15 = .ok (.iadd, 1) := by decide +kernel
theorem dX9_does_16 : decode cX9_does 16 = .ok (.iaload, 1) := by decide +kernel
theorem dX9_does_17 : decode cX9_does 17 = .ok (.istore_n 3, 1) := by decide +kernel
theorem dX9_does_18 : decode cX9_does 18 = .ok (.aload_n 0, 1) := by decide +kernel
theorem dX9_does_19 : decode cX9_does 19 = .ok (.getfield 27, 3) := by decide +kernel
theorem dX9_does_22 : decode cX9_does 22 = .ok (.iload_n 1, 1) := by decide +kernel
theorem dX9_does_23 : decode cX9_does 23 = .ok (.iaload, 1) := by decide +kernel
theorem dX9_does_24 : decode cX9_does 24 = .ok (.tableswitch 202 97 119 #[196, 121, 151, 202, 202, 114, 202, 202, 202, 202, 108, 188, 174, 202, 128, 202, 202, 202, 157, 168, 180, 202, 162], 108) := by decide +kernel
theorem dX9_does_132 : decode cX9_does 132 = .ok (.aload_n 0, 1) := by decide +kernel
theorem dX9_does_133 : decode cX9_does 133 = .ok (.iload_n 2, 1) := by decide +kernel
theorem dX9_does_134 : decode cX9_does 134 = .ok (.invokevirtual 70, 3) := by decide +kernel
theorem dX9_does_137 : decode cX9_does 137 = .ok (.ireturn, 1) := by decide +kernel
theorem dX9_does_138 : decode cX9_does 138 = .ok (.aload_n 0, 1) := by decide +kernel
theorem dX9_does_139 : decode cX9_does 139 = .ok (.iload_n 2, 1) := by decide +kernel
theorem dX9_does_140 : decode cX9_does 140 = .ok (.iload_n 3, 1) := by decide +kernel
theorem dX9_does_141 : decode cX9_does 141 = .ok (.invokevirtual 81, 3) := by decide +kernel
theorem dX9_does_144 : decode cX9_does 144 = .ok (.ireturn, 1) := by decide +kernel
theorem dX9_does_145 : decode cX9_does 145 = .ok (.aload_n 0, 1) := by decide +kernel
theorem dX9_does_146 : decode cX9_does 146 = .ok (.iload_n 2, 1) := by decide +kernel
theorem dX9_does_147 : decode cX9_does 147 = .ok (.iload_n 3, 1) := by decide +kernel
theorem dX9_does_148 : decode cX9_does 148 = .ok (.invokevirtual 88, 3) := by decide +kernel
theorem dX9_does_151 : decode cX9_does 151 = .ok (.ireturn, 1) := by decide +kernel
theorem dX9_does_152 : decode cX9_does 152 = .ok (.aload_n 0, 1) := by decide +kernel
theorem dX9_does_153 : decode cX9_does 153 = .ok (.iload_n 2, 1) := by decide +kernel
theorem dX9_does_154 : decode cX9_does 154 = .ok (.iload_n 3, 1) := by decide +kernel
theorem dX9_does_155 : decode cX9_does 155 = .ok (.aload_n 0, 1) := by decide +kernel
theorem dX9_does_156 : decode cX9_does 156 = .ok (.getfield 27, 3) := by decide +kernel
theorem dX9_does_159 : decode cX9_does 159 = .ok (.iload_n 1, 1) := by decide +kernel
theorem dX9_does_160 : decode cX9_does 160 = .ok (.iconst 3, 1) := by decide +kernel
theorem dX9_does_161 : decode cX9_does 161 = .ok (.iadd, 1) := by decide +kernel
theorem dX9_does_162 : decode cX9_does 162 = .ok (.iaload, 1) := by decide +kernel
theorem dX9_does_163 : decode cX9_does 163 = .ok (.aload_n 0, 1) := by decide +kernel
theorem dX9_does_164 : decode cX9_does 164 = .ok (.getfield 27, 3) := by decide +kernel
theorem dX9_does_167 : decode cX9_does 167 = .ok (.iload_n 1, 1) := by decide +kernel
theorem dX9_does_168 : decode cX9_does 168 = .ok (.iconst 4, 1) := by decide +kernel
theorem dX9_does_169 : decode cX9_does 169 = .ok (.iadd, 1) := by decide +kernel
theorem dX9_does_170 : decode cX9_does 170 = .ok (.iaload, 1) := by decide +kernel
theorem dX9_does_171 : decode cX9_does 171 = .ok (.invokevirtual 91, 3) := by decide +kernel
theorem dX9_does_174 : decode cX9_does 174 = .ok (.ireturn, 1) := by decide +kernel
theorem dX9_does_175 : decode cX9_does 175 = .ok (.aload_n 0, 1) := by decide +kernel
theorem dX9_does_176 : decode cX9_does 176 = .ok (.iload_n 2, 1) := by decide +kernel
theorem dX9_does_177 : decode cX9_does 177 = .ok (.invokevirtual 102, 3) := by decide +kernel
theorem dX9_does_180 : decode cX9_does 180 = .ok (.ireturn, 1) := by decide +kernel
theorem dX9_does_181 : decode cX9_does 181 = .ok (.aload_n 0, 1) := by decide +kernel
theorem dX9_does_182 : decode cX9_does 182 = .ok (.invokevirtual 118, 3) := by decide +kernel
theorem dX9_does_185 : decode cX9_does 185 = .ok (.ireturn, 1) := by decide +kernel
theorem dX9_does_186 : decode cX9_does 186 = .ok (.aload_n 0, 1) := by decide +kernel
theorem dX9_does_187 : decode cX9_does 187 = .ok (.iload_n 2, 1) := by decide +kernel
theorem dX9_does_188 : decode cX9_does 188 = .ok (.invokevirtual 122, 3) := by decide +kernel
theorem dX9_does_191 : decode cX9_does 191 = .ok (.ireturn, 1) := by decide +kernel
theorem dX9_does_192 : decode cX9_does 192 = .ok (.aload_n 0, 1) := by decide +kernel
theorem dX9_does_193 : decode cX9_does 193 = .ok (.iload_n 2, 1) := by decide +kernel
theorem dX9_does_194 : decode cX9_does 194 = .ok (.invokevirtual 125, 3) := by decide +kernel
theorem dX9_does_197 : decode cX9_does 197 = .ok (.ireturn, 1) := by decide +kernel
theorem dX9_does_198 : decode cX9_does 198 = .ok (.aload_n 0, 1) := by decide +kernel
theorem dX9_does_199 : decode cX9_does 199 = .ok (.iload_n 2, 1) := by decide +kernel
theorem dX9_does_200 : decode cX9_does 200 = .ok (.invokevirtual 140, 3) := by decide +kernel
theorem dX9_does_203 : decode cX9_does 203 = .ok (.ireturn, 1) := by decide +kernel
theorem dX9_does_204 : decode cX9_does 204 = .ok (.aload_n 0, 1) := by decide +kernel
theorem dX9_does_205 : decode cX9_does 205 = .ok (.bipush 9, 2) := by decide +kernel
theorem dX9_does_207 : decode cX9_does 207 = .ok (.iload_n 2, 1) := by decide +kernel
theorem dX9_does_208 : decode cX9_does 208 = .ok (.invokevirtual 131, 3) := by decide +kernel
theorem dX9_does_211 : decode cX9_does 211 = .ok (.ireturn, 1) := by decide +kernel
theorem dX9_does_212 : decode cX9_does 212 = .ok (.aload_n 0, 1) := by decide +kernel
theorem dX9_does_213 : decode cX9_does 213 = .ok (.bipush 10, 2) := by decide +kernel
theorem dX9_does_215 : decode cX9_does 215 = .ok (.iload_n 2, 1) := by decide +kernel
theorem dX9_does_216 : decode cX9_does 216 = .ok (.invokevirtual 131, 3) := by decide +kernel
theorem dX9_does_219 : decode cX9_does 219 = .ok (.ireturn, 1) := by decide +kernel
theorem dX9_does_220 : decode cX9_does 220 = .ok (.aload_n 0, 1) := by decide +kernel
theorem dX9_does_221 : decode cX9_does 221 = .ok (.iload_n 2, 1) := by decide +kernel
theorem dX9_does_222 : decode cX9_does 222 = .ok (.invokevirtual 134, 3) := by decide +kernel
theorem dX9_does_225 : decode cX9_does 225 = .ok (.ireturn, 1) := by decide +kernel
theorem dX9_does_226 : decode cX9_does 226 = .ok (.aload_n 0, 1) := by decide +kernel
theorem dX9_does_227 : decode cX9_does 227 = .ok (.invokevirtual 143, 3) := by decide +kernel
theorem dX9_does_230 : decode cX9_does 230 = .ok (.ireturn, 1) := by decide +kernel
theorem dX9_run_0 : decode cX9_run 0 = .ok (.aload_n 0, 1) := by decide +kernel
theorem dX9_run_1 : decode cX9_run 1 = .ok (.invokevirtual 219, 3) := by decide +kernel
theorem dX9_run_4 : decode cX9_run 4 = .ok (.aload_n 0, 1) := by decide +kernel
theorem dX9_run_5 : decode cX9_run 5 = .ok (.iconst 0, 1) := by decide +kernel
theorem dX9_run_6 : decode cX9_run 6 = .ok (.putfield 189, 3) := by decide +kernel
theorem dX9_run_9 : decode cX9_run 9 = .ok (.aload_n 0, 1) := by decide +kernel
theorem dX9_run_10 : decode cX9_run 10 = .ok (.getfield 195, 3) := by decide +kernel
theorem dX9_run_13 : decode cX9_run 13 = .ok (.ifCond .lt 18, 3) := by decide +kernel
theorem dX9_run_16 : decode cX9_run 16 = .ok (.aload_n 0, 1) := by decide +kernel
theorem dX9_run_17 : decode cX9_run 17 = .ok (.aload_n 0, 1) := by decide +kernel
theorem dX9_run_18 : decode cX9_run 18 = .ok (.getfield 195, 3) := by decide +kernel
theorem dX9_run_21 : decode cX9_run 21 = .ok (.putfield 20, 3) := by decide +kernel
theorem dX9_run_24 : decode cX9_run 24 = .ok (.aload_n 0, 1) := by decide +kernel
theorem dX9_run_25 : decode cX9_run 25 = .ok (.iconst 1, 1) := by decide +kernel
theorem dX9_run_26 : decode cX9_run 26 = .ok (.putfield 30, 3) := by decide +kernel
theorem dX9_run_29 : decode cX9_run 29 = .ok (.iconst 0, 1) := by decide +kernel
theorem dX9_run_30 : decode cX9_run 30 = .ok (.ireturn, 1) := by decide +kernel
theorem dX9_run_31 : decode cX9_run 31 = .ok (.aload_n 0, 1) := by decide +kernel
theorem dX9_run_32 : decode cX9_run 32 = .ok (.invokevirtual 67, 3) := by decide +kernel
theorem dX9_run_35 : decode cX9_run 35 = .ok (.iconst 0, 1) := by decide +kernel
theorem dX9_run_36 : decode cX9_run 36 = .ok (.istore_n 1, 1) := by decide +kernel
theorem dX9_run_37 : decode cX9_run 37 = .ok (.iload_n 1, 1) := by decide +kernel
theorem dX9_run_38 : decode cX9_run 38 = .ok (.aload_n 0, 1) := by decide +kernel
theorem dX9_run_39 : decode cX9_run 39 = .ok (.getfield 207, 3) := by decide +kernel
theorem dX9_run_42 : decode cX9_run 42 = .ok (.if_icmp .ge 19, 3) := by decide +kernel
theorem dX9_run_45 : decode cX9_run 45 = .ok (.aload_n 0, 1) := by decide +kernel
theorem dX9_run_46 : decode cX9_run 46 = .ok (.iconst 5, 1) := by decide +kernel
theorem dX9_run_47 : decode cX9_run 47 = .ok (.iload_n 1, 1) := by decide +kernel
theorem dX9_run_48 : decode cX9_run 48 = .ok (.imul, 1) := by decide +kernel
theorem dX9_run_49 : decode cX9_run 49 = .ok (.invokevirtual 222, 3) := by decide +kernel
theorem dX9_run_52 : decode cX9_run 52 = .ok (.ifCond .ne 9, 3) := by decide +kernel
theorem dX9_run_55 : decode cX9_run 55 = .ok (.iinc 1 1, 3) := by decide +kernel
theorem dX9_run_58 : decode cX9_run 58 = .ok (.goto (-21), 3) := by decide +kernel
theorem dX9_run_61 : decode cX9_run 61 = .ok (.iload_n 1, 1) := by decide +kernel
theorem dX9_run_62 : decode cX9_run 62 = .ok (.aload_n 0, 1) := by decide +kernel
theorem dX9_run_63 : decode cX9_run 63 = .ok (.getfield 207, 3) := by decide +kernel
theorem dX9_run_66 : decode cX9_run 66 = .ok (.if_icmp .ne 7, 3) := by decide +kernel
theorem dX9_run_69 : decode cX9_run 69 = .ok (.iconst 1, 1) := by decide +kernel
theorem dX9_run_70 : decode cX9_run 70 = .ok (.goto 4, 3) := by decide +kernel
theorem dX9_run_73 : decode cX9_run 73 = .ok (.iconst 0, 1) := by decide +kernel
theorem dX9_run_74 : decode cX9_run 74 = .ok (.istore_n 2, 1) := by decide +kernel
theorem dX9_run_75 : decode cX9_run 75 = .ok (.aload_n 0, 1) := by decide +kernel
theorem dX9_run_76 : decode cX9_run 76 = .ok (.iload_n 2, 1) := by decide +kernel
theorem dX9_run_77 : decode cX9_run 77 = .ok (.ifCond .eq 10, 3) := by decide +kernel
theorem dX9_run_80 : decode cX9_run 80 = .ok (.aload_n 0, 1) := by decide +kernel
theorem dX9_run_81 : decode cX9_run 81 = .ok (.getfield 24, 3) := by decide +kernel
theorem dX9_run_84 : decode cX9_run 84 = .ok (.goto 4, 3) := by decide +kernel
theorem dX9_run_87 : decode cX9_run 87 = .ok (.iload_n 1, 1) := by decide +kernel
theorem dX9_run_88 : decode cX9_run 88 = .ok (.putfield 24, 3) := by decide +kernel
theorem dX9_run_91 : decode cX9_run 91 = .ok (.aload_n 0, 1) := by decide +kernel
theorem dX9_run_92 : decode cX9_run 92 = .ok (.aload_n 0, 1) := by decide +kernel
theorem dX9_run_93 : decode cX9_run 93 = .ok (.getfield 207, 3) := by decide +kernel
theorem dX9_run_96 : decode cX9_run 96 = .ok (.putfield 40, 3) := by decide +kernel
theorem dX9_run_99 : decode cX9_run 99 = .ok (.aload_n 0, 1) := by decide +kernel
theorem dX9_run_100 : decode cX9_run 100 = .ok (.iload_n 2, 1) := by decide +kernel
theorem dX9_run_101 : decode cX9_run 101 = .ok (.ifCond .eq 7, 3) := by decide +kernel
theorem dX9_run_104 : decode cX9_run 104 = .ok (.iconst 0, 1) := by decide +kernel
theorem dX9_run_105 : decode cX9_run 105 = .ok (.goto 4, 3) := by decide +kernel
theorem dX9_run_108 : decode cX9_run 108 = .ok (.iconst 3, 1) := by decide +kernel
theorem dX9_run_109 : decode cX9_run 109 = .ok (.iconst 0, 1) := by decide +kernel
theorem dX9_run_110 : decode cX9_run 110 = .ok (.iconst 0, 1) := by decide +kernel
theorem dX9_run_111 : decode cX9_run 111 = .ok (.iconst 2, 1) := by decide +kernel
theorem dX9_run_112 : decode cX9_run 112 = .ok (.iconst 0, 1) := by decide +kernel
theorem dX9_run_113 : decode cX9_run 113 = .ok (.invokevirtual 73, 3) := by decide +kernel
theorem dX9_run_116 : decode cX9_run 116 = .ok (.ireturn, 1) := by decide +kernel
theorem dX9_errorPosition_0 : decode cX9_errorPosition 0 = .ok (.aload_n 0, 1) := by decide +kernel
theorem dX9_errorPosition_1 : decode cX9_errorPosition 1 = .ok (.aload_n 0, 1) := by decide +kernel
theorem dX9_errorPosition_2 : decode cX9_errorPosition 2 = .ok (.getfield 20, 3) := by decide +kernel
theorem dX9_errorPosition_5 : decode cX9_errorPosition 5 = .ok (.iconst (-1), 1) := by decide +kernel
theorem dX9_errorPosition_6 : decode cX9_errorPosition 6 = .ok (.if_icmp .eq 7, 3) := by decide +kernel
theorem dX9_errorPosition_9 : decode cX9_errorPosition 9 = .ok (.iconst 1, 1) := by decide +kernel
theorem dX9_errorPosition_10 : decode cX9_errorPosition 10 = .ok (.goto 4, 3) := by decide +kernel
theorem dX9_errorPosition_13 : decode cX9_errorPosition 13 = .ok (.iconst 0, 1) := by decide +kernel
theorem dX9_errorPosition_14 : decode cX9_errorPosition 14 = .ok (.invokevirtual 149, 3) := by decide +kernel
theorem dX9_errorPosition_17 : decode cX9_errorPosition 17 = .ok (.ifCond .eq 10, 3) := by decide +kernel
theorem dX9_errorPosition_20 : decode cX9_errorPosition 20 = .ok (.aload_n 0, 1) := by decide +kernel
theorem dX9_errorPosition_21 : decode cX9_errorPosition 21 = .ok (.getfield 20, 3) := by decide +kernel
theorem dX9_errorPosition_24 : decode cX9_errorPosition 24 = .ok (.goto 4, 3) := by decide +kernel
theorem dX9_errorPosition_27 : decode cX9_errorPosition 27 = .ok (.iconst 0, 1) := by decide +kernel
theorem dX9_errorPosition_28 : decode cX9_errorPosition 28 = .ok (.ireturn, 1) := by decide +kernel
theorem dX9_failedCommand_0 : decode cX9_failedCommand 0 = .ok (.aload_n 0, 1) := by decide +kernel
theorem dX9_failedCommand_1 : decode cX9_failedCommand 1 = .ok (.aload_n 0, 1) := by decide +kernel
theorem dX9_failedCommand_2 : decode cX9_failedCommand 2 = .ok (.getfield 24, 3) := by decide +kernel
theorem dX9_failedCommand_5 : decode cX9_failedCommand 5 = .ok (.iconst (-1), 1) := by decide +kernel
theorem dX9_failedCommand_6 : decode cX9_failedCommand 6 = .ok (.if_icmp .eq 7, 3) := by decide +kernel
theorem dX9_failedCommand_9 : decode cX9_failedCommand 9 = .ok (.iconst 1, 1) := by decide +kernel
theorem dX9_failedCommand_10 : decode cX9_failedCommand 10 = .ok (.goto 4, 3) := by decide +kernel
theorem dX9_failedCommand_13 : decode cX9_failedCommand 13 = .ok (.iconst 0, 1) := by decide +kernel
theorem dX9_failedCommand_14 : decode cX9_failedCommand 14 = .ok (.invokevirtual 149, 3) := by decide +kernel
theorem dX9_failedCommand_17 : decode cX9_failedCommand 17 = .ok (.ifCond .eq 10, 3) := by decide +kernel
theorem dX9_failedCommand_20 : decode cX9_failedCommand 20 = .ok (.aload_n 0, 1) := by decide +kernel
theorem dX9_failedCommand_21 : decode cX9_failedCommand 21 = .ok (.getfield 24, 3) := by decide +kernel
theorem dX9_failedCommand_24 : decode cX9_failedCommand 24 = .ok (.goto 4, 3) := by decide +kernel
theorem dX9_failedCommand_27 : decode cX9_failedCommand 27 = .ok (.iconst 0, 1) := by decide +kernel
theorem dX9_failedCommand_28 : decode cX9_failedCommand 28 = .ok (.ireturn, 1) := by decide +kernel
theorem dX9_undoableCount_0 : decode cX9_undoableCount 0 = .ok (.aload_n 0, 1) := by decide +kernel
theorem dX9_undoableCount_1 : decode cX9_undoableCount 1 = .ok (.iconst 0, 1) := by decide +kernel
theorem dX9_undoableCount_2 : decode cX9_undoableCount 2 = .ok (.putfield 30, 3) := by decide +kernel
theorem dX9_undoableCount_5 : decode cX9_undoableCount 5 = .ok (.aload_n 0, 1) := by decide +kernel
theorem dX9_undoableCount_6 : decode cX9_undoableCount 6 = .ok (.getfield 37, 3) := by decide +kernel
theorem dX9_undoableCount_9 : decode cX9_undoableCount 9 = .ok (.ireturn, 1) := by decide +kernel
theorem dX9_undo_0 : decode cX9_undo 0 = .ok (.aload_n 0, 1) := by decide +kernel
theorem dX9_undo_1 : decode cX9_undo 1 = .ok (.aload_n 0, 1) := by decide +kernel
theorem dX9_undo_2 : decode cX9_undo 2 = .ok (.getfield 37, 3) := by decide +kernel
theorem dX9_undo_5 : decode cX9_undo 5 = .ok (.ifCond .le 7, 3) := by decide +kernel
theorem dX9_undo_8 : decode cX9_undo 8 = .ok (.iconst 1, 1) := by decide +kernel
theorem dX9_undo_9 : decode cX9_undo 9 = .ok (.goto 4, 3) := by decide +kernel
theorem dX9_undo_12 : decode cX9_undo 12 = .ok (.iconst 0, 1) := by decide +kernel
theorem dX9_undo_13 : decode cX9_undo 13 = .ok (.invokevirtual 149, 3) := by decide +kernel
theorem dX9_undo_16 : decode cX9_undo 16 = .ok (.ifCond .ne 5, 3) := by decide +kernel
theorem dX9_undo_19 : decode cX9_undo 19 = .ok (.iconst 0, 1) := by decide +kernel
theorem dX9_undo_20 : decode cX9_undo 20 = .ok (.ireturn, 1) := by decide +kernel
theorem dX9_undo_21 : decode cX9_undo 21 = .ok (.aload_n 0, 1) := by decide +kernel
theorem dX9_undo_22 : decode cX9_undo 22 = .ok (.aload_n 0, 1) := by decide +kernel
theorem dX9_undo_23 : decode cX9_undo 23 = .ok (.getfield 37, 3) := by decide +kernel
theorem dX9_undo_26 : decode cX9_undo 26 = .ok (.iconst 0, 1) := by decide +kernel
theorem dX9_undo_27 : decode cX9_undo 27 = .ok (.invokevirtual 33, 3) := by decide +kernel
theorem dX9_undo_30 : decode cX9_undo 30 = .ok (.aload_n 0, 1) := by decide +kernel
theorem dX9_undo_31 : decode cX9_undo 31 = .ok (.dup, 1) := by decide +kernel
theorem dX9_undo_32 : decode cX9_undo 32 = .ok (.getfield 37, 3) := by decide +kernel
theorem dX9_undo_35 : decode cX9_undo 35 = .ok (.iconst 1, 1) := by decide +kernel
theorem dX9_undo_36 : decode cX9_undo 36 = .ok (.isub, 1) := by decide +kernel
theorem dX9_undo_37 : decode cX9_undo 37 = .ok (.putfield 37, 3) := by decide +kernel
theorem dX9_undo_40 : decode cX9_undo 40 = .ok (.aload_n 0, 1) := by decide +kernel
theorem dX9_undo_41 : decode cX9_undo 41 = .ok (.getfield 37, 3) := by decide +kernel
theorem dX9_undo_44 : decode cX9_undo 44 = .ok (.ireturn, 1) := by decide +kernel
theorem dX9_save_0 : decode cX9_save 0 = .ok (.aload_n 0, 1) := by decide +kernel
theorem dX9_save_1 : decode cX9_save 1 = .ok (.iconst 0, 1) := by decide +kernel
theorem dX9_save_2 : decode cX9_save 2 = .ok (.putfield 30, 3) := by decide +kernel
theorem dX9_save_5 : decode cX9_save 5 = .ok (.aload_n 0, 1) := by decide +kernel
theorem dX9_save_6 : decode cX9_save 6 = .ok (.iconst 1, 1) := by decide +kernel
theorem dX9_save_7 : decode cX9_save 7 = .ok (.putfield 225, 3) := by decide +kernel
theorem dX9_save_10 : decode cX9_save 10 = .ok (.aload_n 0, 1) := by decide +kernel
theorem dX9_save_11 : decode cX9_save 11 = .ok (.iconst 0, 1) := by decide +kernel
theorem dX9_save_12 : decode cX9_save 12 = .ok (.bipush 9, 2) := by decide +kernel
theorem dX9_save_14 : decode cX9_save 14 = .ok (.invokevirtual 33, 3) := by decide +kernel
theorem dX9_save_17 : decode cX9_save 17 = .ok (.aload_n 0, 1) := by decide +kernel
theorem dX9_save_18 : decode cX9_save 18 = .ok (.getfield 9, 3) := by decide +kernel
theorem dX9_save_21 : decode cX9_save 21 = .ok (.iconst 1, 1) := by decide +kernel
theorem dX9_save_22 : decode cX9_save 22 = .ok (.iaload, 1) := by decide +kernel
theorem dX9_save_23 : decode cX9_save 23 = .ok (.ireturn, 1) := by decide +kernel
theorem dX9_restore_0 : decode cX9_restore 0 = .ok (.aload_n 0, 1) := by decide +kernel
theorem dX9_restore_1 : decode cX9_restore 1 = .ok (.aload_n 0, 1) := by decide +kernel
theorem dX9_restore_2 : decode cX9_restore 2 = .ok (.getfield 225, 3) := by decide +kernel
theorem dX9_restore_5 : decode cX9_restore 5 = .ok (.invokevirtual 149, 3) := by decide +kernel
theorem dX9_restore_8 : decode cX9_restore 8 = .ok (.ifCond .ne 5, 3) := by decide +kernel
theorem dX9_restore_11 : decode cX9_restore 11 = .ok (.iconst 0, 1) := by decide +kernel
theorem dX9_restore_12 : decode cX9_restore 12 = .ok (.ireturn, 1) := by decide +kernel
theorem dX9_restore_13 : decode cX9_restore 13 = .ok (.aload_n 0, 1) := by decide +kernel
theorem dX9_restore_14 : decode cX9_restore 14 = .ok (.bipush 9, 2) := by decide +kernel
theorem dX9_restore_16 : decode cX9_restore 16 = .ok (.iconst 0, 1) := by decide +kernel
theorem dX9_restore_17 : decode cX9_restore 17 = .ok (.invokevirtual 33, 3) := by decide +kernel
theorem dX9_restore_20 : decode cX9_restore 20 = .ok (.aload_n 0, 1) := by decide +kernel
theorem dX9_restore_21 : decode cX9_restore 21 = .ok (.iconst 0, 1) := by decide +kernel
theorem dX9_restore_22 : decode cX9_restore 22 = .ok (.putfield 37, 3) := by decide +kernel
theorem dX9_restore_25 : decode cX9_restore 25 = .ok (.aload_n 0, 1) := by decide +kernel
theorem dX9_restore_26 : decode cX9_restore 26 = .ok (.getfield 9, 3) := by decide +kernel
theorem dX9_restore_29 : decode cX9_restore 29 = .ok (.iconst 1, 1) := by decide +kernel
theorem dX9_restore_30 : decode cX9_restore 30 = .ok (.iaload, 1) := by decide +kernel
theorem dX9_restore_31 : decode cX9_restore 31 = .ok (.ireturn, 1) := by decide +kernel
