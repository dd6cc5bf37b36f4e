theorem dX12_init_0 : decode cX12_init 0 = .ok (.aload_n 0, 1) := by decide +kernel
theorem dX12_init_1 : decode cX12_init 1 = .ok (.invokespecial 1, 3) := by decide +kernel
theorem dX12_init_4 : decode cX12_init 4 = .ok (.aload_n 0, 1) := by decide +kernel
theorem dX12_init_5 : decode cX12_init 5 = .ok (.iconst 4, 1) := by decide +kernel
theorem dX12_init_6 : decode cX12_init 6 = .ok (.anewarray 7, 3) := by decide +kernel
theorem dX12_init_9 : decode cX12_init 9 = .ok (.putfield 9, 3) := by decide +kernel
theorem dX12_init_12 : decode cX12_init 12 = .ok (.aload_n 0, 1) := by decide +kernel
theorem dX12_init_13 : decode cX12_init 13 = .ok (.bipush 10, 2) := by decide +kernel
theorem dX12_init_15 : decode cX12_init 15 = .ok (.anewarray 7, 3) := by decide +kernel
theorem dX12_init_18 : decode cX12_init 18 = .ok (.putfield 15, 3) := by decide +kernel
theorem dX12_init_21 : decode cX12_init 21 = .ok (.aload_n 0, 1) := by decide +kernel
theorem dX12_init_22 : decode cX12_init 22 = .ok (.bipush 6, 2) := by decide +kernel
theorem dX12_init_24 : decode cX12_init 24 = .ok (.anewarray 7, 3) := by decide +kernel
theorem dX12_init_27 : decode cX12_init 27 = .ok (.putfield 18, 3) := by decide +kernel
theorem dX12_init_30 : decode cX12_init 30 = .ok (.aload_n 0, 1) := by decide +kernel
theorem dX12_init_31 : decode cX12_init 31 = .ok (.bipush 6, 2) := by decide +kernel
theorem dX12_init_33 : decode cX12_init 33 = .ok (.iconst 5, 1) := by decide +kernel
theorem dX12_init_34 : decode cX12_init 34 = .ok (.multianewarray 21 2, 4) := by decide +kernel
theorem dX12_init_38 : decode cX12_init 38 = .ok (.putfield 22, 3) := by decide +kernel
theorem dX12_init_41 : decode cX12_init 41 = .ok (.aload_n 0, 1) := by decide +kernel
theorem dX12_init_42 : decode cX12_init 42 = .ok (.iconst 4, 1) := by decide +kernel
theorem dX12_init_43 : decode cX12_init 43 = .ok (.bipush 6, 2) := by decide +kernel
theorem dX12_init_45 : decode cX12_init 45 = .ok (.multianewarray 21 2, 4) := by decide +kernel
theorem dX12_init_49 : decode cX12_init 49 = .ok (.putfield 25, 3) := by decide +kernel
theorem dX12_init_52 : decode cX12_init 52 = .ok (.aload_n 0, 1) := by decide +kernel
theorem dX12_init_53 : decode cX12_init 53 = .ok (.iconst 4, 1) := by decide +kernel
theorem dX12_init_54 : decode cX12_init 54 = .ok (.newarray .int, 2) := by decide +kernel
theorem dX12_init_56 : decode cX12_init 56 = .ok (.putfield 28, 3) := by decide +kernel
theorem dX12_init_59 : decode cX12_init 59 = .ok (.aload_n 0, 1) := by decide +kernel
theorem dX12_init_60 : decode cX12_init 60 = .ok (.bipush 60, 2) := by decide +kernel
theorem dX12_init_62 : decode cX12_init 62 = .ok (.anewarray 7, 3) := by decide +kernel
theorem dX12_init_65 : decode cX12_init 65 = .ok (.putfield 31, 3) := by decide +kernel
theorem dX12_init_68 : decode cX12_init 68 = .ok (.return_, 1) := by decide +kernel
theorem dX12_shown_0 : decode cX12_shown 0 = .ok (.aload_n 0, 1) := by decide +kernel
theorem dX12_shown_1 : decode cX12_shown 1 = .ok (.getfield 15, 3) := by decide +kernel
theorem dX12_shown_4 : decode cX12_shown 4 = .ok (.iload_n 1, 1) := by decide +kernel
theorem dX12_shown_5 : decode cX12_shown 5 = .ok (.aaload, 1) := by decide +kernel
theorem dX12_shown_6 : decode cX12_shown 6 = .ok (.iconst 5, 1) := by decide +kernel
theorem dX12_shown_7 : decode cX12_shown 7 = .ok (.iaload, 1) := by decide +kernel
theorem dX12_shown_8 : decode cX12_shown 8 = .ok (.ifCond .lt 27, 3) := by decide +kernel
theorem dX12_shown_11 : decode cX12_shown 11 = .ok (.iload_n 2, 1) := by decide +kernel
theorem dX12_shown_12 : decode cX12_shown 12 = .ok (.aload_n 0, 1) := by decide +kernel
theorem dX12_shown_13 : decode cX12_shown 13 = .ok (.getfield 15, 3) := by decide +kernel
theorem dX12_shown_16 : decode cX12_shown 16 = .ok (.iload_n 1, 1) := by decide +kernel
theorem dX12_shown_17 : decode cX12_shown 17 = .ok (.aaload, 1) := by decide +kernel
theorem dX12_shown_18 : decode cX12_shown 18 = .ok (.bipush 6, 2) := by decide +kernel
theorem dX12_shown_20 : decode cX12_shown 20 = .ok (.iaload, 1) := by decide +kernel
theorem dX12_shown_21 : decode cX12_shown 21 = .ok (.if_icmp .lt 14, 3) := by decide +kernel
theorem dX12_shown_24 : decode cX12_shown 24 = .ok (.aload_n 0, 1) := by decide +kernel
theorem dX12_shown_25 : decode cX12_shown 25 = .ok (.getfield 15, 3) := by decide +kernel
theorem dX12_shown_28 : decode cX12_shown 28 = .ok (.iload_n 1, 1) := by decide +kernel
theorem dX12_shown_29 : decode cX12_shown 29 = .ok (.aaload, 1) := by decide +kernel
theorem dX12_shown_30 : decode cX12_shown 30 = .ok (.iconst 5, 1) := by decide +kernel
theorem dX12_shown_31 : decode cX12_shown 31 = .ok (.iaload, 1) := by decide +kernel
theorem dX12_shown_32 : decode cX12_shown 32 = .ok (.goto 11, 3) := by decide +kernel
theorem dX12_shown_35 : decode cX12_shown 35 = .ok (.aload_n 0, 1) := by decide +kernel
theorem dX12_shown_36 : decode cX12_shown 36 = .ok (.getfield 15, 3) := by decide +kernel
theorem dX12_shown_39 : decode cX12_shown 39 = .ok (.iload_n 1, 1) := by decide +kernel
theorem dX12_shown_40 : decode cX12_shown 40 = .ok (.aaload, 1) := by decide +kernel
theorem dX12_shown_41 : decode cX12_shown 41 = .ok (.iconst 4, 1) := by decide +kernel
theorem dX12_shown_42 : decode cX12_shown 42 = .ok (.iaload, 1) := by decide +kernel
theorem dX12_shown_43 : decode cX12_shown 43 = .ok (.ireturn, 1) := by decide +kernel
theorem dX12_room_0 : decode cX12_room 0 = .ok (.aload_n 0, 1) := by decide +kernel
theorem dX12_room_1 : decode cX12_room 1 = .ok (.getfield 15, 3) := by decide +kernel
theorem dX12_room_4 : decode cX12_room 4 = .ok (.iload_n 1, 1) := by decide +kernel
theorem dX12_room_5 : decode cX12_room 5 = .ok (.aaload, 1) := by decide +kernel
theorem dX12_room_6 : decode cX12_room 6 = .ok (.iconst 1, 1) := by decide +kernel
theorem dX12_room_7 : decode cX12_room 7 = .ok (.iaload, 1) := by decide +kernel
theorem dX12_room_8 : decode cX12_room 8 = .ok (.aload_n 0, 1) := by decide +kernel
theorem dX12_room_9 : decode cX12_room 9 = .ok (.getfield 15, 3) := by decide +kernel
theorem dX12_room_12 : decode cX12_room 12 = .ok (.iload_n 1, 1) := by decide +kernel
theorem dX12_room_13 : decode cX12_room 13 = .ok (.aaload, 1) := by decide +kernel
theorem dX12_room_14 : decode cX12_room 14 = .ok (.iconst 2, 1) := by decide +kernel
theorem dX12_room_15 : decode cX12_room 15 = .ok (.iaload, 1) := by decide +kernel
theorem dX12_room_16 : decode cX12_room 16 = .ok (.imul, 1) := by decide +kernel
theorem dX12_room_17 : decode cX12_room 17 = .ok (.ireturn, 1) := by decide +kernel
theorem dX12_price_0 : decode cX12_price 0 = .ok (.aload_n 0, 1) := by decide +kernel
theorem dX12_price_1 : decode cX12_price 1 = .ok (.getfield 9, 3) := by decide +kernel
theorem dX12_price_4 : decode cX12_price 4 = .ok (.aload_n 0, 1) := by decide +kernel
theorem dX12_price_5 : decode cX12_price 5 = .ok (.getfield 15, 3) := by decide +kernel
theorem dX12_price_8 : decode cX12_price 8 = .ok (.iload_n 1, 1) := by decide +kernel
theorem dX12_price_9 : decode cX12_price 9 = .ok (.aaload, 1) := by decide +kernel
theorem dX12_price_10 : decode cX12_price 10 = .ok (.iconst 0, 1) := by decide +kernel
theorem dX12_price_11 : decode cX12_price 11 = .ok (.iaload, 1) := by decide +kernel
theorem dX12_price_12 : decode cX12_price 12 = .ok (.aaload, 1) := by decide +kernel
theorem dX12_price_13 : decode cX12_price 13 = .ok (.iconst 0, 1) := by decide +kernel
theorem dX12_price_14 : decode cX12_price 14 = .ok (.iaload, 1) := by decide +kernel
theorem dX12_price_15 : decode cX12_price 15 = .ok (.ireturn, 1) := by decide +kernel
theorem dX12_age_0 : decode cX12_age 0 = .ok (.aload_n 0, 1) := by decide +kernel
theorem dX12_age_1 : decode cX12_age 1 = .ok (.getfield 18, 3) := by decide +kernel
theorem dX12_age_4 : decode cX12_age 4 = .ok (.iload_n 1, 1) := by decide +kernel
theorem dX12_age_5 : decode cX12_age 5 = .ok (.aaload, 1) := by decide +kernel
theorem dX12_age_6 : decode cX12_age 6 = .ok (.bipush 8, 2) := by decide +kernel
theorem dX12_age_8 : decode cX12_age 8 = .ok (.iaload, 1) := by decide +kernel
theorem dX12_age_9 : decode cX12_age 9 = .ok (.ifCond .ge 7, 3) := by decide +kernel
theorem dX12_age_12 : decode cX12_age 12 = .ok (.iconst 0, 1) := by decide +kernel
theorem dX12_age_13 : decode cX12_age 13 = .ok (.goto 17, 3) := by decide +kernel
theorem dX12_age_16 : decode cX12_age 16 = .ok (.aload_n 0, 1) := by decide +kernel
theorem dX12_age_17 : decode cX12_age 17 = .ok (.getfield 45, 3) := by decide +kernel
theorem dX12_age_20 : decode cX12_age 20 = .ok (.aload_n 0, 1) := by decide +kernel
theorem dX12_age_21 : decode cX12_age 21 = .ok (.getfield 18, 3) := by decide +kernel
theorem dX12_age_24 : decode cX12_age 24 = .ok (.iload_n 1, 1) := by decide +kernel
theorem dX12_age_25 : decode cX12_age 25 = .ok (.aaload, 1) := by decide +kernel
theorem dX12_age_26 : decode cX12_age 26 = .ok (.bipush 8, 2) := by decide +kernel
theorem dX12_age_28 : decode cX12_age 28 = .ok (.iaload, 1) := by decide +kernel
theorem dX12_age_29 : decode cX12_age 29 = .ok (.isub, 1) := by decide +kernel
theorem dX12_age_30 : decode cX12_age 30 = .ok (.ireturn, 1) := by decide +kernel
theorem dX12_daily_0 : decode cX12_daily 0 = .ok (.aload_n 0, 1) := by decide +kernel
theorem dX12_daily_1 : decode cX12_daily 1 = .ok (.getfield 18, 3) := by decide +kernel
theorem dX12_daily_4 : decode cX12_daily 4 = .ok (.iload_n 1, 1) := by decide +kernel
theorem dX12_daily_5 : decode cX12_daily 5 = .ok (.aaload, 1) := by decide +kernel
theorem dX12_daily_6 : decode cX12_daily 6 = .ok (.iconst 0, 1) := by decide +kernel
theorem dX12_daily_7 : decode cX12_daily 7 = .ok (.iaload, 1) := by decide +kernel
theorem dX12_daily_8 : decode cX12_daily 8 = .ok (.istore_n 2, 1) := by decide +kernel
theorem dX12_daily_9 : decode cX12_daily 9 = .ok (.iconst 0, 1) := by decide +kernel
theorem dX12_daily_10 : decode cX12_daily 10 = .ok (.istore_n 3, 1) := by decide +kernel
theorem dX12_daily_11 : decode cX12_daily 11 = .ok (.iload_n 3, 1) := by decide +kernel
theorem dX12_daily_12 : decode cX12_daily 12 = .ok (.aload_n 0, 1) := by decide +kernel
theorem dX12_daily_13 : decode cX12_daily 13 = .ok (.iload_n 1, 1) := by decide +kernel
theorem dX12_daily_14 : decode cX12_daily 14 = .ok (.invokevirtual 58, 3) := by decide +kernel
theorem dX12_daily_17 : decode cX12_daily 17 = .ok (.if_icmp .ge 23, 3) := by decide +kernel
theorem dX12_daily_20 : decode cX12_daily 20 = .ok (.iload_n 2, 1) := by decide +kernel
theorem dX12_daily_21 : decode cX12_daily 21 = .ok (.aload_n 0, 1) := by decide +kernel
theorem dX12_daily_22 : decode cX12_daily 22 = .ok (.getfield 18, 3) := by decide +kernel
theorem dX12_daily_25 : decode cX12_daily 25 = .ok (.iload_n 1, 1) := by decide +kernel
theorem dX12_daily_26 : decode cX12_daily 26 = .ok (.aaload, 1) := by decide +kernel
theorem dX12_daily_27 : decode cX12_daily 27 = .ok (.iconst 1, 1) := by decide +kernel
theorem dX12_daily_28 : decode cX12_daily 28 = .ok (.iaload, 1) := by decide +kernel
theorem dX12_daily_29 : decode cX12_daily 29 = .ok (.imul, 1) := by decide +kernel
theorem dX12_daily_30 : decode cX12_daily 30 = .ok (.bipush 100, 2) := by decide +kernel
theorem dX12_daily_32 : decode cX12_daily 32 = .ok (.idiv, 1) := by decide +kernel
theorem dX12_daily_33 : decode cX12_daily 33 = .ok (.istore_n 2, 1) := by decide +kernel
theorem dX12_daily_34 : decode cX12_daily 34 = .ok (.iinc 3 1, 3) := by decide +kernel
theorem dX12_daily_37 : decode cX12_daily 37 = .ok (.goto (-26), 3) := by decide +kernel
theorem dX12_daily_40 : decode cX12_daily 40 = .ok (.iload_n 2, 1) := by decide +kernel
theorem dX12_daily_41 : decode cX12_daily 41 = .ok (.ireturn, 1) := by decide +kernel
theorem dX12_guests_0 : decode cX12_guests 0 = .ok (.aload_n 0, 1) := by decide +kernel
theorem dX12_guests_1 : decode cX12_guests 1 = .ok (.iload_n 1, 1) := by decide +kernel
theorem dX12_guests_2 : decode cX12_guests 2 = .ok (.iload_n 2, 1) := by decide +kernel
theorem dX12_guests_3 : decode cX12_guests 3 = .ok (.invokevirtual 62, 3) := by decide +kernel
theorem dX12_guests_6 : decode cX12_guests 6 = .ok (.istore_n 3, 1) := by decide +kernel
theorem dX12_guests_7 : decode cX12_guests 7 = .ok (.iload_n 3, 1) := by decide +kernel
theorem dX12_guests_8 : decode cX12_guests 8 = .ok (.ifCond .ge 5, 3) := by decide +kernel
theorem dX12_guests_11 : decode cX12_guests 11 = .ok (.iconst 0, 1) := by decide +kernel
theorem dX12_guests_12 : decode cX12_guests 12 = .ok (.ireturn, 1) := by decide +kernel
theorem dX12_guests_13 : decode cX12_guests 13 = .ok (.aload_n 0, 1) := by decide +kernel
theorem dX12_guests_14 : decode cX12_guests 14 = .ok (.iload_n 3, 1) := by decide +kernel
theorem dX12_guests_15 : decode cX12_guests 15 = .ok (.invokevirtual 66, 3) := by decide +kernel
theorem dX12_guests_18 : decode cX12_guests 18 = .ok (.istore 4, 2) := by decide +kernel
theorem dX12_guests_20 : decode cX12_guests 20 = .ok (.iconst 0, 1) := by decide +kernel
theorem dX12_guests_21 : decode cX12_guests 21 = .ok (.istore 5, 2) := by decide +kernel
theorem dX12_guests_23 : decode cX12_guests 23 = .ok (.iload 5, 2) := by decide +kernel
theorem dX12_guests_25 : decode cX12_guests 25 = .ok (.aload_n 0, 1) := by decide +kernel
theorem dX12_guests_26 : decode cX12_guests 26 = .ok (.getfield 39, 3) := by decide +kernel
theorem dX12_guests_29 : decode cX12_guests 29 = .ok (.if_icmp .ge 94, 3) := by decide +kernel
theorem dX12_guests_32 : decode cX12_guests 32 = .ok (.iload 5, 2) := by decide +kernel
theorem dX12_guests_34 : decode cX12_guests 34 = .ok (.iload_n 1, 1) := by decide +kernel
theorem dX12_guests_35 : decode cX12_guests 35 = .ok (.if_icmp .eq 82, 3) := by decide +kernel
theorem dX12_guests_38 : decode cX12_guests 38 = .ok (.aload_n 0, 1) := by decide +kernel
theorem dX12_guests_39 : decode cX12_guests 39 = .ok (.getfield 15, 3) := by decide +kernel
theorem dX12_guests_42 : decode cX12_guests 42 = .ok (.iload 5, 2) := by decide +kernel
theorem dX12_guests_44 : decode cX12_guests 44 = .ok (.aaload, 1) := by decide +kernel
theorem dX12_guests_45 : decode cX12_guests 45 = .ok (.iconst 0, 1) := by decide +kernel
theorem dX12_guests_46 : decode cX12_guests 46 = .ok (.iaload, 1) := by decide +kernel
theorem dX12_guests_47 : decode cX12_guests 47 = .ok (.aload_n 0, 1) := by decide +kernel
theorem dX12_guests_48 : decode cX12_guests 48 = .ok (.getfield 15, 3) := by decide +kernel
theorem dX12_guests_51 : decode cX12_guests 51 = .ok (.iload_n 1, 1) := by decide +kernel
theorem dX12_guests_52 : decode cX12_guests 52 = .ok (.aaload, 1) := by decide +kernel
theorem dX12_guests_53 : decode cX12_guests 53 = .ok (.iconst 0, 1) := by decide +kernel
theorem dX12_guests_54 : decode cX12_guests 54 = .ok (.iaload, 1) := by decide +kernel
theorem dX12_guests_55 : decode cX12_guests 55 = .ok (.if_icmp .ne 62, 3) := by decide +kernel
theorem dX12_guests_58 : decode cX12_guests 58 = .ok (.aload_n 0, 1) := by decide +kernel
theorem dX12_guests_59 : decode cX12_guests 59 = .ok (.iload 5, 2) := by decide +kernel
theorem dX12_guests_61 : decode cX12_guests 61 = .ok (.iload_n 2, 1) := by decide +kernel
theorem dX12_guests_62 : decode cX12_guests 62 = .ok (.invokevirtual 62, 3) := by decide +kernel
theorem dX12_guests_65 : decode cX12_guests 65 = .ok (.iload_n 3, 1) := by decide +kernel
theorem dX12_guests_66 : decode cX12_guests 66 = .ok (.if_icmp .eq 6, 3) := by decide +kernel
theorem dX12_guests_69 : decode cX12_guests 69 = .ok (.goto 48, 3) := by decide +kernel
theorem dX12_guests_72 : decode cX12_guests 72 = .ok (.aload_n 0, 1) := by decide +kernel
theorem dX12_guests_73 : decode cX12_guests 73 = .ok (.iload 5, 2) := by decide +kernel
theorem dX12_guests_75 : decode cX12_guests 75 = .ok (.invokevirtual 69, 3) := by decide +kernel
theorem dX12_guests_78 : decode cX12_guests 78 = .ok (.aload_n 0, 1) := by decide +kernel
theorem dX12_guests_79 : decode cX12_guests 79 = .ok (.iload_n 1, 1) := by decide +kernel
theorem dX12_guests_80 : decode cX12_guests 80 = .ok (.invokevirtual 69, 3) := by decide +kernel
theorem dX12_guests_83 : decode cX12_guests 83 = .ok (.if_icmp .gt 23, 3) := by decide +kernel
theorem dX12_guests_86 : decode cX12_guests 86 = .ok (.aload_n 0, 1) := by decide +kernel
theorem dX12_guests_87 : decode cX12_guests 87 = .ok (.iload 5, 2) := by decide +kernel
theorem dX12_guests_89 : decode cX12_guests 89 = .ok (.invokevirtual 69, 3) := by decide +kernel
theorem dX12_guests_92 : decode cX12_guests 92 = .ok (.aload_n 0, 1) := by decide +kernel
theorem dX12_guests_93 : decode cX12_guests 93 = .ok (.iload_n 1, 1) := by decide +kernel
theorem dX12_guests_94 : decode cX12_guests 94 = .ok (.invokevirtual 69, 3) := by decide +kernel
theorem dX12_guests_97 : decode cX12_guests 97 = .ok (.if_icmp .ne 20, 3) := by decide +kernel
theorem dX12_guests_100 : decode cX12_guests 100 = .ok (.iload 5, 2) := by decide +kernel
theorem dX12_guests_102 : decode cX12_guests 102 = .ok (.iload_n 1, 1) := by decide +kernel
theorem dX12_guests_103 : decode cX12_guests 103 = .ok (.if_icmp .ge 14, 3) := by decide +kernel
theorem dX12_guests_106 : decode cX12_guests 106 = .ok (.iload 4, 2) := by decide +kernel
theorem dX12_guests_108 : decode cX12_guests 108 = .ok (.aload_n 0, 1) := by decide +kernel
theorem dX12_guests_109 : decode cX12_guests 109 = .ok (.iload 5, 2) := by decide +kernel
theorem dX12_guests_111 : decode cX12_guests 111 = .ok (.invokevirtual 69, 3) := by decide +kernel
theorem dX12_guests_114 : decode cX12_guests 114 = .ok (.isub, 1) := by decide +kernel
theorem dX12_guests_115 : decode cX12_guests 115 = .ok (.istore 4, 2) := by decide +kernel
theorem dX12_guests_117 : decode cX12_guests 117 = .ok (.iinc 5 1, 3) := by decide +kernel
theorem dX12_guests_120 : decode cX12_guests 120 = .ok (.goto (-97), 3) := by decide +kernel
theorem dX12_guests_123 : decode cX12_guests 123 = .ok (.iconst 0, 1) := by decide +kernel
theorem dX12_guests_124 : decode cX12_guests 124 = .ok (.iload 4, 2) := by decide +kernel
theorem dX12_guests_126 : decode cX12_guests 126 = .ok (.aload_n 0, 1) := by decide +kernel
theorem dX12_guests_127 : decode cX12_guests 127 = .ok (.iload_n 1, 1) := by decide +kernel
theorem dX12_guests_128 : decode cX12_guests 128 = .ok (.invokevirtual 69, 3) := by decide +kernel
theorem dX12_guests_131 : decode cX12_guests 131 = .ok (.invokestatic 72, 3) := by decide +kernel
theorem dX12_guests_134 : decode cX12_guests 134 = .ok (.invokestatic 77, 3) := by decide +kernel
theorem dX12_guests_137 : decode cX12_guests 137 = .ok (.ireturn, 1) := by decide +kernel
theorem dX12_took_0 : decode cX12_took 0 = .ok (.iconst 0, 1) := by decide +kernel
theorem dX12_took_1 : decode cX12_took 1 = .ok (.istore_n 3, 1) := by decide +kernel
theorem dX12_took_2 : decode cX12_took 2 = .ok (.iconst 0, 1) := by decide +kernel
theorem dX12_took_3 : decode cX12_took 3 = .ok (.istore 4, 2) := by decide +kernel
theorem dX12_took_5 : decode cX12_took 5 = .ok (.iload 4, 2) := by decide +kernel
theorem dX12_took_7 : decode cX12_took 7 = .ok (.bipush 7, 2) := by decide +kernel
theorem dX12_took_9 : decode cX12_took 9 = .ok (.if_icmp .ge 34, 3) := by decide +kernel
theorem dX12_took_12 : decode cX12_took 12 = .ok (.iload_n 2, 1) := by decide +kernel
theorem dX12_took_13 : decode cX12_took 13 = .ok (.ifCond .lt 14, 3) := by decide +kernel
theorem dX12_took_16 : decode cX12_took 16 = .ok (.aload_n 0, 1) := by decide +kernel
theorem dX12_took_17 : decode cX12_took 17 = .ok (.iload_n 1, 1) := by decide +kernel
theorem dX12_took_18 : decode cX12_took 18 = .ok (.iload 4, 2) := by decide +kernel
theorem dX12_took_20 : decode cX12_took 20 = .ok (.invokevirtual 62, 3) := by decide +kernel
theorem dX12_took_23 : decode cX12_took 23 = .ok (.iload_n 2, 1) := by decide +kernel
theorem dX12_took_24 : decode cX12_took 24 = .ok (.if_icmp .ne 13, 3) := by decide +kernel
theorem dX12_took_27 : decode cX12_took 27 = .ok (.iload_n 3, 1) := by decide +kernel
theorem dX12_took_28 : decode cX12_took 28 = .ok (.aload_n 0, 1) := by decide +kernel
theorem dX12_took_29 : decode cX12_took 29 = .ok (.iload_n 1, 1) := by decide +kernel
theorem dX12_took_30 : decode cX12_took 30 = .ok (.iload 4, 2) := by decide +kernel
theorem dX12_took_32 : decode cX12_took 32 = .ok (.invokevirtual 80, 3) := by decide +kernel
theorem dX12_took_35 : decode cX12_took 35 = .ok (.iadd, 1) := by decide +kernel
theorem dX12_took_36 : decode cX12_took 36 = .ok (.istore_n 3, 1) := by decide +kernel
theorem dX12_took_37 : decode cX12_took 37 = .ok (.iinc 4 1, 3) := by decide +kernel
theorem dX12_took_40 : decode cX12_took 40 = .ok (.goto (-35), 3) := by decide +kernel
theorem dX12_took_43 : decode cX12_took 43 = .ok (.iload_n 3, 1) := by decide +kernel
theorem dX12_took_44 : decode cX12_took 44 = .ok (.aload_n 0, 1) := by decide +kernel
theorem dX12_took_45 : decode cX12_took 45 = .ok (.iload_n 1, 1) := by decide +kernel
theorem dX12_took_46 : decode cX12_took 46 = .ok (.invokevirtual 83, 3) := by decide +kernel
theorem dX12_took_49 : decode cX12_took 49 = .ok (.imul, 1) := by decide +kernel
theorem dX12_took_50 : decode cX12_took 50 = .ok (.ireturn, 1) := by decide +kernel
theorem dX12_takings_0 : decode cX12_takings 0 = .ok (.iconst 0, 1) := by decide +kernel
theorem dX12_takings_1 : decode cX12_takings 1 = .ok (.istore_n 3, 1) := by decide +kernel
theorem dX12_takings_2 : decode cX12_takings 2 = .ok (.iconst 0, 1) := by decide +kernel
theorem dX12_takings_3 : decode cX12_takings 3 = .ok (.istore 4, 2) := by decide +kernel
theorem dX12_takings_5 : decode cX12_takings 5 = .ok (.iload 4, 2) := by decide +kernel
theorem dX12_takings_7 : decode cX12_takings 7 = .ok (.aload_n 0, 1) := by decide +kernel
theorem dX12_takings_8 : decode cX12_takings 8 = .ok (.getfield 39, 3) := by decide +kernel
theorem dX12_takings_11 : decode cX12_takings 11 = .ok (.if_icmp .ge 36, 3) := by decide +kernel
theorem dX12_takings_14 : decode cX12_takings 14 = .ok (.iload_n 1, 1) := by decide +kernel
theorem dX12_takings_15 : decode cX12_takings 15 = .ok (.ifCond .lt 16, 3) := by decide +kernel
theorem dX12_takings_18 : decode cX12_takings 18 = .ok (.aload_n 0, 1) := by decide +kernel
theorem dX12_takings_19 : decode cX12_takings 19 = .ok (.getfield 15, 3) := by decide +kernel
theorem dX12_takings_22 : decode cX12_takings 22 = .ok (.iload 4, 2) := by decide +kernel
theorem dX12_takings_24 : decode cX12_takings 24 = .ok (.aaload, 1) := by decide +kernel
theorem dX12_takings_25 : decode cX12_takings 25 = .ok (.iconst 0, 1) := by decide +kernel
theorem dX12_takings_26 : decode cX12_takings 26 = .ok (.iaload, 1) := by decide +kernel
theorem dX12_takings_27 : decode cX12_takings 27 = .ok (.iload_n 1, 1) := by decide +kernel
theorem dX12_takings_28 : decode cX12_takings 28 = .ok (.if_icmp .ne 13, 3) := by decide +kernel
theorem dX12_takings_31 : decode cX12_takings 31 = .ok (.iload_n 3, 1) := by decide +kernel
theorem dX12_takings_32 : decode cX12_takings 32 = .ok (.aload_n 0, 1) := by decide +kernel
theorem dX12_takings_33 : decode cX12_takings 33 = .ok (.iload 4, 2) := by decide +kernel
theorem dX12_takings_35 : decode cX12_takings 35 = .ok (.iload_n 2, 1) := by decide +kernel
theorem dX12_takings_36 : decode cX12_takings 36 = .ok (.invokevirtual 86, 3) := by decide +kernel
theorem dX12_takings_39 : decode cX12_takings 39 = .ok (.iadd, 1) := by decide +kernel
theorem dX12_takings_40 : decode cX12_takings 40 = .ok (.istore_n 3, 1) := by decide +kernel
theorem dX12_takings_41 : decode cX12_takings 41 = .ok (.iinc 4 1, 3) := by decide +kernel
theorem dX12_takings_44 : decode cX12_takings 44 = .ok (.goto (-39), 3) := by decide +kernel
theorem dX12_takings_47 : decode cX12_takings 47 = .ok (.iload_n 3, 1) := by decide +kernel
theorem dX12_takings_48 : decode cX12_takings 48 = .ok (.ireturn, 1) := by decide +kernel
theorem dX12_isIn_0 : decode cX12_isIn 0 = .ok (.iconst 0, 1) := by decide +kernel
theorem dX12_isIn_1 : decode cX12_isIn 1 = .ok (.istore_n 3, 1) := by decide +kernel
theorem dX12_isIn_2 : decode cX12_isIn 2 = .ok (.iload_n 3, 1) := by decide +kernel
theorem dX12_isIn_3 : decode cX12_isIn 3 = .ok (.aload_n 0, 1) := by decide +kernel
theorem dX12_isIn_4 : decode cX12_isIn 4 = .ok (.getfield 39, 3) := by decide +kernel
theorem dX12_isIn_7 : decode cX12_isIn 7 = .ok (.if_icmp .ge 50, 3) := by decide +kernel
theorem dX12_isIn_10 : decode cX12_isIn 10 = .ok (.iconst 0, 1) := by decide +kernel
theorem dX12_isIn_11 : decode cX12_isIn 11 = .ok (.istore 4, 2) := by decide +kernel
theorem dX12_isIn_13 : decode cX12_isIn 13 = .ok (.iload 4, 2) := by decide +kernel
theorem dX12_isIn_15 : decode cX12_isIn 15 = .ok (.bipush 7, 2) := by decide +kernel
theorem dX12_isIn_17 : decode cX12_isIn 17 = .ok (.if_icmp .ge 34, 3) := by decide +kernel
theorem dX12_isIn_20 : decode cX12_isIn 20 = .ok (.aload_n 0, 1) := by decide +kernel
theorem dX12_isIn_21 : decode cX12_isIn 21 = .ok (.getfield 15, 3) := by decide +kernel
theorem dX12_isIn_24 : decode cX12_isIn 24 = .ok (.iload_n 3, 1) := by decide +kernel
theorem dX12_isIn_25 : decode cX12_isIn 25 = .ok (.aaload, 1) := by decide +kernel
theorem dX12_isIn_26 : decode cX12_isIn 26 = .ok (.iconst 0, 1) := by decide +kernel
theorem dX12_isIn_27 : decode cX12_isIn 27 = .ok (.iaload, 1) := by decide +kernel
theorem dX12_isIn_28 : decode cX12_isIn 28 = .ok (.iload_n 1, 1) := by decide +kernel
theorem dX12_isIn_29 : decode cX12_isIn 29 = .ok (.if_icmp .ne 16, 3) := by decide +kernel
theorem dX12_isIn_32 : decode cX12_isIn 32 = .ok (.aload_n 0, 1) := by decide +kernel
theorem dX12_isIn_33 : decode cX12_isIn 33 = .ok (.iload_n 3, 1) := by decide +kernel
theorem dX12_isIn_34 : decode cX12_isIn 34 = .ok (.iload 4, 2) := by decide +kernel
theorem dX12_isIn_36 : decode cX12_isIn 36 = .ok (.invokevirtual 62, 3) := by decide +kernel
theorem dX12_isIn_39 : decode cX12_isIn 39 = .ok (.iload_n 2, 1) := by decide +kernel
theorem dX12_isIn_40 : decode cX12_isIn 40 = .ok (.if_icmp .ne 5, 3) := by decide +kernel
theorem dX12_isIn_43 : decode cX12_isIn 43 = .ok (.iconst 1, 1) := by decide +kernel
theorem dX12_isIn_44 : decode cX12_isIn 44 = .ok (.ireturn, 1) := by decide +kernel
theorem dX12_isIn_45 : decode cX12_isIn 45 = .ok (.iinc 4 1, 3) := by decide +kernel
theorem dX12_isIn_48 : decode cX12_isIn 48 = .ok (.goto (-35), 3) := by decide +kernel
theorem dX12_isIn_51 : decode cX12_isIn 51 = .ok (.iinc 3 1, 3) := by decide +kernel
theorem dX12_isIn_54 : decode cX12_isIn 54 = .ok (.goto (-52), 3) := by decide +kernel
theorem dX12_isIn_57 : decode cX12_isIn 57 = .ok (.iconst 0, 1) := by decide +kernel
theorem dX12_isIn_58 : decode cX12_isIn 58 = .ok (.ireturn, 1) := by decide +kernel
theorem dX12_share_0 : decode cX12_share 0 = .ok (.aload_n 0, 1) := by decide +kernel
theorem dX12_share_1 : decode cX12_share 1 = .ok (.iload_n 1, 1) := by decide +kernel
theorem dX12_share_2 : decode cX12_share 2 = .ok (.iload_n 2, 1) := by decide +kernel
theorem dX12_share_3 : decode cX12_share 3 = .ok (.invokevirtual 89, 3) := by decide +kernel
theorem dX12_share_6 : decode cX12_share 6 = .ok (.ifCond .eq 18, 3) := by decide +kernel
theorem dX12_share_9 : decode cX12_share 9 = .ok (.aload_n 0, 1) := by decide +kernel
theorem dX12_share_10 : decode cX12_share 10 = .ok (.iload_n 1, 1) := by decide +kernel
theorem dX12_share_11 : decode cX12_share 11 = .ok (.iload_n 2, 1) := by decide +kernel
theorem dX12_share_12 : decode cX12_share 12 = .ok (.aload_n 0, 1) := by decide +kernel
theorem dX12_share_13 : decode cX12_share 13 = .ok (.iload_n 1, 1) := by decide +kernel
theorem dX12_share_14 : decode cX12_share 14 = .ok (.iload_n 2, 1) := by decide +kernel
theorem dX12_share_15 : decode cX12_share 15 = .ok (.invokevirtual 93, 3) := by decide +kernel
theorem dX12_share_18 : decode cX12_share 18 = .ok (.invokevirtual 96, 3) := by decide +kernel
theorem dX12_share_21 : decode cX12_share 21 = .ok (.goto 4, 3) := by decide +kernel
theorem dX12_share_24 : decode cX12_share 24 = .ok (.iconst 0, 1) := by decide +kernel
theorem dX12_share_25 : decode cX12_share 25 = .ok (.ireturn, 1) := by decide +kernel
theorem dX12_part_0 : decode cX12_part 0 = .ok (.aload_n 0, 1) := by decide +kernel
theorem dX12_part_1 : decode cX12_part 1 = .ok (.getfield 18, 3) := by decide +kernel
theorem dX12_part_4 : decode cX12_part 4 = .ok (.iload_n 2, 1) := by decide +kernel
theorem dX12_part_5 : decode cX12_part 5 = .ok (.aaload, 1) := by decide +kernel
theorem dX12_part_6 : decode cX12_part 6 = .ok (.iconst 4, 1) := by decide +kernel
theorem dX12_part_7 : decode cX12_part 7 = .ok (.aload_n 0, 1) := by decide +kernel
theorem dX12_part_8 : decode cX12_part 8 = .ok (.getfield 25, 3) := by decide +kernel
theorem dX12_part_11 : decode cX12_part 11 = .ok (.iload_n 1, 1) := by decide +kernel
theorem dX12_part_12 : decode cX12_part 12 = .ok (.aaload, 1) := by decide +kernel
theorem dX12_part_13 : decode cX12_part 13 = .ok (.iload_n 2, 1) := by decide +kernel
theorem dX12_part_14 : decode cX12_part 14 = .ok (.iaload, 1) := by decide +kernel
theorem dX12_part_15 : decode cX12_part 15 = .ok (.aload_n 0, 1) := by decide +kernel
theorem dX12_part_16 : decode cX12_part 16 = .ok (.getfield 18, 3) := by decide +kernel
theorem dX12_part_19 : decode cX12_part 19 = .ok (.iload_n 2, 1) := by decide +kernel
theorem dX12_part_20 : decode cX12_part 20 = .ok (.aaload, 1) := by decide +kernel
theorem dX12_part_21 : decode cX12_part 21 = .ok (.iconst 3, 1) := by decide +kernel
theorem dX12_part_22 : decode cX12_part 22 = .ok (.iaload, 1) := by decide +kernel
theorem dX12_part_23 : decode cX12_part 23 = .ok (.iconst 1, 1) := by decide +kernel
theorem dX12_part_24 : decode cX12_part 24 = .ok (.isub, 1) := by decide +kernel
theorem dX12_part_25 : decode cX12_part 25 = .ok (.invokestatic 72, 3) := by decide +kernel
theorem dX12_part_28 : decode cX12_part 28 = .ok (.iadd, 1) := by decide +kernel
theorem dX12_part_29 : decode cX12_part 29 = .ok (.iaload, 1) := by decide +kernel
theorem dX12_part_30 : decode cX12_part 30 = .ok (.istore 4, 2) := by decide +kernel
theorem dX12_part_32 : decode cX12_part 32 = .ok (.iload_n 3, 1) := by decide +kernel
theorem dX12_part_33 : decode cX12_part 33 = .ok (.iload 4, 2) := by decide +kernel
theorem dX12_part_35 : decode cX12_part 35 = .ok (.imul, 1) := by decide +kernel
theorem dX12_part_36 : decode cX12_part 36 = .ok (.bipush 100, 2) := by decide +kernel
theorem dX12_part_38 : decode cX12_part 38 = .ok (.idiv, 1) := by decide +kernel
theorem dX12_part_39 : decode cX12_part 39 = .ok (.aload_n 0, 1) := by decide +kernel
theorem dX12_part_40 : decode cX12_part 40 = .ok (.getfield 18, 3) := by decide +kernel
theorem dX12_part_43 : decode cX12_part 43 = .ok (.iload_n 2, 1) := by decide +kernel
theorem dX12_part_44 : decode cX12_part 44 = .ok (.aaload, 1) := by decide +kernel
theorem dX12_part_45 : decode cX12_part 45 = .ok (.iconst 2, 1) := by decide +kernel
theorem dX12_part_46 : decode cX12_part 46 = .ok (.iaload, 1) := by decide +kernel
theorem dX12_part_47 : decode cX12_part 47 = .ok (.iload_n 3, 1) := by decide +kernel
theorem dX12_part_48 : decode cX12_part 48 = .ok (.invokestatic 72, 3) := by decide +kernel
theorem dX12_part_51 : decode cX12_part 51 = .ok (.invokestatic 77, 3) := by decide +kernel
theorem dX12_part_54 : decode cX12_part 54 = .ok (.ireturn, 1) := by decide +kernel
theorem dX12_shares_0 : decode cX12_shares 0 = .ok (.iconst 0, 1) := by decide +kernel
theorem dX12_shares_1 : decode cX12_shares 1 = .ok (.istore_n 2, 1) := by decide +kernel
theorem dX12_shares_2 : decode cX12_shares 2 = .ok (.iconst 0, 1) := by decide +kernel
theorem dX12_shares_3 : decode cX12_shares 3 = .ok (.istore_n 3, 1) := by decide +kernel
theorem dX12_shares_4 : decode cX12_shares 4 = .ok (.iload_n 3, 1) := by decide +kernel
theorem dX12_shares_5 : decode cX12_shares 5 = .ok (.aload_n 0, 1) := by decide +kernel
theorem dX12_shares_6 : decode cX12_shares 6 = .ok (.getfield 42, 3) := by decide +kernel
theorem dX12_shares_9 : decode cX12_shares 9 = .ok (.if_icmp .ge 18, 3) := by decide +kernel
theorem dX12_shares_12 : decode cX12_shares 12 = .ok (.iload_n 2, 1) := by decide +kernel
theorem dX12_shares_13 : decode cX12_shares 13 = .ok (.aload_n 0, 1) := by decide +kernel
theorem dX12_shares_14 : decode cX12_shares 14 = .ok (.iload_n 1, 1) := by decide +kernel
theorem dX12_shares_15 : decode cX12_shares 15 = .ok (.iload_n 3, 1) := by decide +kernel
theorem dX12_shares_16 : decode cX12_shares 16 = .ok (.invokevirtual 100, 3) := by decide +kernel
theorem dX12_shares_19 : decode cX12_shares 19 = .ok (.iadd, 1) := by decide +kernel
theorem dX12_shares_20 : decode cX12_shares 20 = .ok (.istore_n 2, 1) := by decide +kernel
theorem dX12_shares_21 : decode cX12_shares 21 = .ok (.iinc 3 1, 3) := by decide +kernel
theorem dX12_shares_24 : decode cX12_shares 24 = .ok (.goto (-20), 3) := by decide +kernel
theorem dX12_shares_27 : decode cX12_shares 27 = .ok (.iload_n 2, 1) := by decide +kernel
theorem dX12_shares_28 : decode cX12_shares 28 = .ok (.ireturn, 1) := by decide +kernel
theorem dX12_rents_0 : decode cX12_rents 0 = .ok (.iconst 0, 1) := by decide +kernel
theorem dX12_rents_1 : decode cX12_rents 1 = .ok (.istore_n 2, 1) := by decide +kernel
theorem dX12_rents_2 : decode cX12_rents 2 = .ok (.iconst 0, 1) := by decide +kernel
theorem dX12_rents_3 : decode cX12_rents 3 = .ok (.istore_n 3, 1) := by decide +kernel
theorem dX12_rents_4 : decode cX12_rents 4 = .ok (.iload_n 3, 1) := by decide +kernel
theorem dX12_rents_5 : decode cX12_rents 5 = .ok (.aload_n 0, 1) := by decide +kernel
theorem dX12_rents_6 : decode cX12_rents 6 = .ok (.getfield 39, 3) := by decide +kernel
theorem dX12_rents_9 : decode cX12_rents 9 = .ok (.if_icmp .ge 36, 3) := by decide +kernel
theorem dX12_rents_12 : decode cX12_rents 12 = .ok (.iload_n 1, 1) := by decide +kernel
theorem dX12_rents_13 : decode cX12_rents 13 = .ok (.ifCond .lt 15, 3) := by decide +kernel
theorem dX12_rents_16 : decode cX12_rents 16 = .ok (.aload_n 0, 1) := by decide +kernel
theorem dX12_rents_17 : decode cX12_rents 17 = .ok (.getfield 15, 3) := by decide +kernel
theorem dX12_rents_20 : decode cX12_rents 20 = .ok (.iload_n 3, 1) := by decide +kernel
theorem dX12_rents_21 : decode cX12_rents 21 = .ok (.aaload, 1) := by decide +kernel
theorem dX12_rents_22 : decode cX12_rents 22 = .ok (.iconst 0, 1) := by decide +kernel
theorem dX12_rents_23 : decode cX12_rents 23 = .ok (.iaload, 1) := by decide +kernel
theorem dX12_rents_24 : decode cX12_rents 24 = .ok (.iload_n 1, 1) := by decide +kernel
theorem dX12_rents_25 : decode cX12_rents 25 = .ok (.if_icmp .ne 14, 3) := by decide +kernel
theorem dX12_rents_28 : decode cX12_rents 28 = .ok (.iload_n 2, 1) := by decide +kernel
theorem dX12_rents_29 : decode cX12_rents 29 = .ok (.aload_n 0, 1) := by decide +kernel
theorem dX12_rents_30 : decode cX12_rents 30 = .ok (.getfield 15, 3) := by decide +kernel
theorem dX12_rents_33 : decode cX12_rents 33 = .ok (.iload_n 3, 1) := by decide +kernel
theorem dX12_rents_34 : decode cX12_rents 34 = .ok (.aaload, 1) := by decide +kernel
theorem dX12_rents_35 : decode cX12_rents 35 = .ok (.iconst 3, 1) := by decide +kernel
theorem dX12_rents_36 : decode cX12_rents 36 = .ok (.iaload, 1) := by decide +kernel
theorem dX12_rents_37 : decode cX12_rents 37 = .ok (.iadd, 1) := by decide +kernel
theorem dX12_rents_38 : decode cX12_rents 38 = .ok (.istore_n 2, 1) := by decide +kernel
theorem dX12_rents_39 : decode cX12_rents 39 = .ok (.iinc 3 1, 3) := by decide +kernel
theorem dX12_rents_42 : decode cX12_rents 42 = .ok (.goto (-38), 3) := by decide +kernel
theorem dX12_rents_45 : decode cX12_rents 45 = .ok (.iload_n 2, 1) := by decide +kernel
theorem dX12_rents_46 : decode cX12_rents 46 = .ok (.ireturn, 1) := by decide +kernel
theorem dX12_need_0 : decode cX12_need 0 = .ok (.iconst 0, 1) := by decide +kernel
theorem dX12_need_1 : decode cX12_need 1 = .ok (.istore_n 3, 1) := by decide +kernel
theorem dX12_need_2 : decode cX12_need 2 = .ok (.iconst 0, 1) := by decide +kernel
theorem dX12_need_3 : decode cX12_need 3 = .ok (.istore 4, 2) := by decide +kernel
theorem dX12_need_5 : decode cX12_need 5 = .ok (.iload 4, 2) := by decide +kernel
theorem dX12_need_7 : decode cX12_need 7 = .ok (.bipush 7, 2) := by decide +kernel
theorem dX12_need_9 : decode cX12_need 9 = .ok (.if_icmp .ge 72, 3) := by decide +kernel
theorem dX12_need_12 : decode cX12_need 12 = .ok (.iconst 0, 1) := by decide +kernel
theorem dX12_need_13 : decode cX12_need 13 = .ok (.istore 5, 2) := by decide +kernel
theorem dX12_need_15 : decode cX12_need 15 = .ok (.iconst 0, 1) := by decide +kernel
theorem dX12_need_16 : decode cX12_need 16 = .ok (.istore 6, 2) := by decide +kernel
theorem dX12_need_18 : decode cX12_need 18 = .ok (.iload 6, 2) := by decide +kernel
theorem dX12_need_20 : decode cX12_need 20 = .ok (.aload_n 0, 1) := by decide +kernel
theorem dX12_need_21 : decode cX12_need 21 = .ok (.getfield 39, 3) := by decide +kernel
theorem dX12_need_24 : decode cX12_need 24 = .ok (.if_icmp .ge 44, 3) := by decide +kernel
theorem dX12_need_27 : decode cX12_need 27 = .ok (.iload 5, 2) := by decide +kernel
theorem dX12_need_29 : decode cX12_need 29 = .ok (.aload_n 0, 1) := by decide +kernel
theorem dX12_need_30 : decode cX12_need 30 = .ok (.getfield 15, 3) := by decide +kernel
theorem dX12_need_33 : decode cX12_need 33 = .ok (.iload 6, 2) := by decide +kernel
theorem dX12_need_35 : decode cX12_need 35 = .ok (.aaload, 1) := by decide +kernel
theorem dX12_need_36 : decode cX12_need 36 = .ok (.iconst 0, 1) := by decide +kernel
theorem dX12_need_37 : decode cX12_need 37 = .ok (.iaload, 1) := by decide +kernel
theorem dX12_need_38 : decode cX12_need 38 = .ok (.iload_n 1, 1) := by decide +kernel
theorem dX12_need_39 : decode cX12_need 39 = .ok (.if_icmp .ne 19, 3) := by decide +kernel
theorem dX12_need_42 : decode cX12_need 42 = .ok (.aload_n 0, 1) := by decide +kernel
theorem dX12_need_43 : decode cX12_need 43 = .ok (.iload 6, 2) := by decide +kernel
theorem dX12_need_45 : decode cX12_need 45 = .ok (.iload 4, 2) := by decide +kernel
theorem dX12_need_47 : decode cX12_need 47 = .ok (.invokevirtual 62, 3) := by decide +kernel
theorem dX12_need_50 : decode cX12_need 50 = .ok (.iload_n 2, 1) := by decide +kernel
theorem dX12_need_51 : decode cX12_need 51 = .ok (.if_icmp .ne 7, 3) := by decide +kernel
theorem dX12_need_54 : decode cX12_need 54 = .ok (.iconst 1, 1) := by decide +kernel
theorem dX12_need_55 : decode cX12_need 55 = .ok (.goto 4, 3) := by decide +kernel
theorem dX12_need_58 : decode cX12_need 58 = .ok (.iconst 0, 1) := by decide +kernel
theorem dX12_need_59 : decode cX12_need 59 = .ok (.iadd, 1) := by decide +kernel
theorem dX12_need_60 : decode cX12_need 60 = .ok (.istore 5, 2) := by decide +kernel
theorem dX12_need_62 : decode cX12_need 62 = .ok (.iinc 6 1, 3) := by decide +kernel
theorem dX12_need_65 : decode cX12_need 65 = .ok (.goto (-47), 3) := by decide +kernel
theorem dX12_need_68 : decode cX12_need 68 = .ok (.iload_n 3, 1) := by decide +kernel
theorem dX12_need_69 : decode cX12_need 69 = .ok (.iload 5, 2) := by decide +kernel
theorem dX12_need_71 : decode cX12_need 71 = .ok (.invokestatic 77, 3) := by decide +kernel
theorem dX12_need_74 : decode cX12_need 74 = .ok (.istore_n 3, 1) := by decide +kernel
theorem dX12_need_75 : decode cX12_need 75 = .ok (.iinc 4 1, 3) := by decide +kernel
theorem dX12_need_78 : decode cX12_need 78 = .ok (.goto (-73), 3) := by decide +kernel
theorem dX12_need_81 : decode cX12_need 81 = .ok (.iload_n 3, 1) := by decide +kernel
theorem dX12_need_82 : decode cX12_need 82 = .ok (.ireturn, 1) := by decide +kernel
theorem dX12_holds_0 : decode cX12_holds 0 = .ok (.aload_n 0, 1) := by decide +kernel
theorem dX12_holds_1 : decode cX12_holds 1 = .ok (.iload_n 1, 1) := by decide +kernel
theorem dX12_holds_2 : decode cX12_holds 2 = .ok (.bipush 6, 2) := by decide +kernel
theorem dX12_holds_4 : decode cX12_holds 4 = .ok (.invokevirtual 62, 3) := by decide +kernel
theorem dX12_holds_7 : decode cX12_holds 7 = .ok (.istore_n 2, 1) := by decide +kernel
theorem dX12_holds_8 : decode cX12_holds 8 = .ok (.iload_n 2, 1) := by decide +kernel
theorem dX12_holds_9 : decode cX12_holds 9 = .ok (.ifCond .ge 5, 3) := by decide +kernel
theorem dX12_holds_12 : decode cX12_holds 12 = .ok (.iconst 0, 1) := by decide +kernel
theorem dX12_holds_13 : decode cX12_holds 13 = .ok (.ireturn, 1) := by decide +kernel
theorem dX12_holds_14 : decode cX12_holds 14 = .ok (.iconst 0, 1) := by decide +kernel
theorem dX12_holds_15 : decode cX12_holds 15 = .ok (.istore_n 3, 1) := by decide +kernel
theorem dX12_holds_16 : decode cX12_holds 16 = .ok (.iconst 0, 1) := by decide +kernel
theorem dX12_holds_17 : decode cX12_holds 17 = .ok (.istore 4, 2) := by decide +kernel
theorem dX12_holds_19 : decode cX12_holds 19 = .ok (.iload 4, 2) := by decide +kernel
theorem dX12_holds_21 : decode cX12_holds 21 = .ok (.bipush 7, 2) := by decide +kernel
theorem dX12_holds_23 : decode cX12_holds 23 = .ok (.if_icmp .ge 28, 3) := by decide +kernel
theorem dX12_holds_26 : decode cX12_holds 26 = .ok (.iload_n 3, 1) := by decide +kernel
theorem dX12_holds_27 : decode cX12_holds 27 = .ok (.aload_n 0, 1) := by decide +kernel
theorem dX12_holds_28 : decode cX12_holds 28 = .ok (.iload_n 1, 1) := by decide +kernel
theorem dX12_holds_29 : decode cX12_holds 29 = .ok (.iload 4, 2) := by decide +kernel
theorem dX12_holds_31 : decode cX12_holds 31 = .ok (.invokevirtual 62, 3) := by decide +kernel
theorem dX12_holds_34 : decode cX12_holds 34 = .ok (.iload_n 2, 1) := by decide +kernel
theorem dX12_holds_35 : decode cX12_holds 35 = .ok (.if_icmp .ne 7, 3) := by decide +kernel
theorem dX12_holds_38 : decode cX12_holds 38 = .ok (.iconst 1, 1) := by decide +kernel
theorem dX12_holds_39 : decode cX12_holds 39 = .ok (.goto 4, 3) := by decide +kernel
theorem dX12_holds_42 : decode cX12_holds 42 = .ok (.iconst 0, 1) := by decide +kernel
theorem dX12_holds_43 : decode cX12_holds 43 = .ok (.iadd, 1) := by decide +kernel
theorem dX12_holds_44 : decode cX12_holds 44 = .ok (.istore_n 3, 1) := by decide +kernel
theorem dX12_holds_45 : decode cX12_holds 45 = .ok (.iinc 4 1, 3) := by decide +kernel
theorem dX12_holds_48 : decode cX12_holds 48 = .ok (.goto (-29), 3) := by decide +kernel
theorem dX12_holds_51 : decode cX12_holds 51 = .ok (.aload_n 0, 1) := by decide +kernel
theorem dX12_holds_52 : decode cX12_holds 52 = .ok (.iload_n 1, 1) := by decide +kernel
theorem dX12_holds_53 : decode cX12_holds 53 = .ok (.iload_n 2, 1) := by decide +kernel
theorem dX12_holds_54 : decode cX12_holds 54 = .ok (.invokevirtual 86, 3) := by decide +kernel
theorem dX12_holds_57 : decode cX12_holds 57 = .ok (.bipush 100, 2) := by decide +kernel
theorem dX12_holds_59 : decode cX12_holds 59 = .ok (.imul, 1) := by decide +kernel
theorem dX12_holds_60 : decode cX12_holds 60 = .ok (.aload_n 0, 1) := by decide +kernel
theorem dX12_holds_61 : decode cX12_holds 61 = .ok (.getfield 9, 3) := by decide +kernel
theorem dX12_holds_64 : decode cX12_holds 64 = .ok (.aload_n 0, 1) := by decide +kernel
theorem dX12_holds_65 : decode cX12_holds 65 = .ok (.getfield 15, 3) := by decide +kernel
theorem dX12_holds_68 : decode cX12_holds 68 = .ok (.iload_n 1, 1) := by decide +kernel
theorem dX12_holds_69 : decode cX12_holds 69 = .ok (.aaload, 1) := by decide +kernel
theorem dX12_holds_70 : decode cX12_holds 70 = .ok (.iconst 0, 1) := by decide +kernel
theorem dX12_holds_71 : decode cX12_holds 71 = .ok (.iaload, 1) := by decide +kernel
theorem dX12_holds_72 : decode cX12_holds 72 = .ok (.aaload, 1) := by decide +kernel
theorem dX12_holds_73 : decode cX12_holds 73 = .ok (.iconst 1, 1) := by decide +kernel
theorem dX12_holds_74 : decode cX12_holds 74 = .ok (.iaload, 1) := by decide +kernel
theorem dX12_holds_75 : decode cX12_holds 75 = .ok (.aload_n 0, 1) := by decide +kernel
theorem dX12_holds_76 : decode cX12_holds 76 = .ok (.iload_n 1, 1) := by decide +kernel
theorem dX12_holds_77 : decode cX12_holds 77 = .ok (.invokevirtual 69, 3) := by decide +kernel
theorem dX12_holds_80 : decode cX12_holds 80 = .ok (.imul, 1) := by decide +kernel
theorem dX12_holds_81 : decode cX12_holds 81 = .ok (.aload_n 0, 1) := by decide +kernel
theorem dX12_holds_82 : decode cX12_holds 82 = .ok (.iload_n 1, 1) := by decide +kernel
theorem dX12_holds_83 : decode cX12_holds 83 = .ok (.invokevirtual 83, 3) := by decide +kernel
theorem dX12_holds_86 : decode cX12_holds 86 = .ok (.imul, 1) := by decide +kernel
theorem dX12_holds_87 : decode cX12_holds 87 = .ok (.iload_n 3, 1) := by decide +kernel
theorem dX12_holds_88 : decode cX12_holds 88 = .ok (.imul, 1) := by decide +kernel
theorem dX12_holds_89 : decode cX12_holds 89 = .ok (.if_icmp .lt 7, 3) := by decide +kernel
theorem dX12_holds_92 : decode cX12_holds 92 = .ok (.iconst 1, 1) := by decide +kernel
theorem dX12_holds_93 : decode cX12_holds 93 = .ok (.goto 4, 3) := by decide +kernel
theorem dX12_holds_96 : decode cX12_holds 96 = .ok (.iconst 0, 1) := by decide +kernel
theorem dX12_holds_97 : decode cX12_holds 97 = .ok (.ireturn, 1) := by decide +kernel
theorem dX12_roster_0 : decode cX12_roster 0 = .ok (.iconst 0, 1) := by decide +kernel
theorem dX12_roster_1 : decode cX12_roster 1 = .ok (.istore_n 2, 1) := by decide +kernel
theorem dX12_roster_2 : decode cX12_roster 2 = .ok (.iconst 0, 1) := by decide +kernel
theorem dX12_roster_3 : decode cX12_roster 3 = .ok (.istore_n 3, 1) := by decide +kernel
theorem dX12_roster_4 : decode cX12_roster 4 = .ok (.iload_n 3, 1) := by decide +kernel
theorem dX12_roster_5 : decode cX12_roster 5 = .ok (.aload_n 0, 1) := by decide +kernel
theorem dX12_roster_6 : decode cX12_roster 6 = .ok (.getfield 39, 3) := by decide +kernel
theorem dX12_roster_9 : decode cX12_roster 9 = .ok (.if_icmp .ge 29, 3) := by decide +kernel
theorem dX12_roster_12 : decode cX12_roster 12 = .ok (.iload_n 2, 1) := by decide +kernel
theorem dX12_roster_13 : decode cX12_roster 13 = .ok (.aload_n 0, 1) := by decide +kernel
theorem dX12_roster_14 : decode cX12_roster 14 = .ok (.getfield 15, 3) := by decide +kernel
theorem dX12_roster_17 : decode cX12_roster 17 = .ok (.iload_n 3, 1) := by decide +kernel
theorem dX12_roster_18 : decode cX12_roster 18 = .ok (.aaload, 1) := by decide +kernel
theorem dX12_roster_19 : decode cX12_roster 19 = .ok (.iconst 0, 1) := by decide +kernel
theorem dX12_roster_20 : decode cX12_roster 20 = .ok (.iaload, 1) := by decide +kernel
theorem dX12_roster_21 : decode cX12_roster 21 = .ok (.iload_n 1, 1) := by decide +kernel
theorem dX12_roster_22 : decode cX12_roster 22 = .ok (.if_icmp .ne 7, 3) := by decide +kernel
theorem dX12_roster_25 : decode cX12_roster 25 = .ok (.iconst 1, 1) := by decide +kernel
theorem dX12_roster_26 : decode cX12_roster 26 = .ok (.goto 4, 3) := by decide +kernel
theorem dX12_roster_29 : decode cX12_roster 29 = .ok (.iconst 0, 1) := by decide +kernel
theorem dX12_roster_30 : decode cX12_roster 30 = .ok (.iadd, 1) := by decide +kernel
theorem dX12_roster_31 : decode cX12_roster 31 = .ok (.istore_n 2, 1) := by decide +kernel
theorem dX12_roster_32 : decode cX12_roster 32 = .ok (.iinc 3 1, 3) := by decide +kernel
theorem dX12_roster_35 : decode cX12_roster 35 = .ok (.goto (-31), 3) := by decide +kernel
theorem dX12_roster_38 : decode cX12_roster 38 = .ok (.iload_n 2, 1) := by decide +kernel
theorem dX12_roster_39 : decode cX12_roster 39 = .ok (.newarray .int, 2) := by decide +kernel
theorem dX12_roster_41 : decode cX12_roster 41 = .ok (.astore_n 3, 1) := by decide +kernel
theorem dX12_roster_42 : decode cX12_roster 42 = .ok (.aload_n 0, 1) := by decide +kernel
theorem dX12_roster_43 : decode cX12_roster 43 = .ok (.getfield 39, 3) := by decide +kernel
theorem dX12_roster_46 : decode cX12_roster 46 = .ok (.iconst 1, 1) := by decide +kernel
theorem dX12_roster_47 : decode cX12_roster 47 = .ok (.isub, 1) := by decide +kernel
theorem dX12_roster_48 : decode cX12_roster 48 = .ok (.istore 4, 2) := by decide +kernel
theorem dX12_roster_50 : decode cX12_roster 50 = .ok (.iload 4, 2) := by decide +kernel
theorem dX12_roster_52 : decode cX12_roster 52 = .ok (.ifCond .lt 30, 3) := by decide +kernel
theorem dX12_roster_55 : decode cX12_roster 55 = .ok (.aload_n 0, 1) := by decide +kernel
theorem dX12_roster_56 : decode cX12_roster 56 = .ok (.getfield 15, 3) := by decide +kernel
theorem dX12_roster_59 : decode cX12_roster 59 = .ok (.iload 4, 2) := by decide +kernel
theorem dX12_roster_61 : decode cX12_roster 61 = .ok (.aaload, 1) := by decide +kernel
theorem dX12_roster_62 : decode cX12_roster 62 = .ok (.iconst 0, 1) := by decide +kernel
theorem dX12_roster_63 : decode cX12_roster 63 = .ok (.iaload, 1) := by decide +kernel
theorem dX12_roster_64 : decode cX12_roster 64 = .ok (.iload_n 1, 1) := by decide +kernel
theorem dX12_roster_65 : decode cX12_roster 65 = .ok (.if_icmp .ne 11, 3) := by decide +kernel
theorem dX12_roster_68 : decode cX12_roster 68 = .ok (.aload_n 3, 1) := by decide +kernel
theorem dX12_roster_69 : decode cX12_roster 69 = .ok (.iinc 2 (-1), 3) := by decide +kernel
theorem dX12_roster_72 : decode cX12_roster 72 = .ok (.iload_n 2, 1) := by decide +kernel
theorem dX12_roster_73 : decode cX12_roster 73 = .ok (.iload 4, 2) := by decide +kernel
theorem dX12_roster_75 : decode cX12_roster 75 = .ok (.iastore, 1) := by decide +kernel
theorem dX12_roster_76 : decode cX12_roster 76 = .ok (.iinc 4 (-1), 3) := by decide +kernel
theorem dX12_roster_79 : decode cX12_roster 79 = .ok (.goto (-29), 3) := by decide +kernel
theorem dX12_roster_82 : decode cX12_roster 82 = .ok (.aload_n 3, 1) := by decide +kernel
theorem dX12_roster_83 : decode cX12_roster 83 = .ok (.areturn, 1) := by decide +kernel
theorem dX12_best_0 : decode cX12_best 0 = .ok (.aload_n 0, 1) := by decide +kernel
theorem dX12_best_1 : decode cX12_best 1 = .ok (.iload_n 1, 1) := by decide +kernel
theorem dX12_best_2 : decode cX12_best 2 = .ok (.invokevirtual 103, 3) := by decide +kernel
theorem dX12_best_5 : decode cX12_best 5 = .ok (.astore_n 2, 1) := by decide +kernel
theorem dX12_best_6 : decode cX12_best 6 = .ok (.iconst 1, 1) := by decide +kernel
theorem dX12_best_7 : decode cX12_best 7 = .ok (.istore_n 3, 1) := by decide +kernel
theorem dX12_best_8 : decode cX12_best 8 = .ok (.aload_n 2, 1) := by decide +kernel
theorem dX12_best_9 : decode cX12_best 9 = .ok (.astore 4, 2) := by decide +kernel
theorem dX12_best_11 : decode cX12_best 11 = .ok (.aload 4, 2) := by decide +kernel
theorem dX12_best_13 : decode cX12_best 13 = .ok (.arraylength, 1) := by decide +kernel
theorem dX12_best_14 : decode cX12_best 14 = .ok (.istore 5, 2) := by decide +kernel
theorem dX12_best_16 : decode cX12_best 16 = .ok (.iconst 0, 1) := by decide +kernel
theorem dX12_best_17 : decode cX12_best 17 = .ok (.istore 6, 2) := by decide +kernel
theorem dX12_best_19 : decode cX12_best 19 = .ok (.iload 6, 2) := by decide +kernel
theorem dX12_best_21 : decode cX12_best 21 = .ok (.iload 5, 2) := by decide +kernel
theorem dX12_best_23 : decode cX12_best 23 = .ok (.if_icmp .ge 43, 3) := by decide +kernel
theorem dX12_best_26 : decode cX12_best 26 = .ok (.aload 4, 2) := by decide +kernel
theorem dX12_best_28 : decode cX12_best 28 = .ok (.iload 6, 2) := by decide +kernel
theorem dX12_best_30 : decode cX12_best 30 = .ok (.iaload, 1) := by decide +kernel
theorem dX12_best_31 : decode cX12_best 31 = .ok (.istore 7, 2) := by decide +kernel
theorem dX12_best_33 : decode cX12_best 33 = .ok (.iload_n 3, 1) := by decide +kernel
theorem dX12_best_34 : decode cX12_best 34 = .ok (.aload_n 0, 1) := by decide +kernel
theorem dX12_best_35 : decode cX12_best 35 = .ok (.getfield 15, 3) := by decide +kernel
theorem dX12_best_38 : decode cX12_best 38 = .ok (.iload 7, 2) := by decide +kernel
theorem dX12_best_40 : decode cX12_best 40 = .ok (.aaload, 1) := by decide +kernel
theorem dX12_best_41 : decode cX12_best 41 = .ok (.bipush 7, 2) := by decide +kernel
theorem dX12_best_43 : decode cX12_best 43 = .ok (.iaload, 1) := by decide +kernel
theorem dX12_best_44 : decode cX12_best 44 = .ok (.iconst 1, 1) := by decide +kernel
theorem dX12_best_45 : decode cX12_best 45 = .ok (.if_icmp .ne 7, 3) := by decide +kernel
theorem dX12_best_48 : decode cX12_best 48 = .ok (.iconst 1, 1) := by decide +kernel
theorem dX12_best_49 : decode cX12_best 49 = .ok (.goto 9, 3) := by decide +kernel
theorem dX12_best_52 : decode cX12_best 52 = .ok (.aload_n 0, 1) := by decide +kernel
theorem dX12_best_53 : decode cX12_best 53 = .ok (.getfield 42, 3) := by decide +kernel
theorem dX12_best_56 : decode cX12_best 56 = .ok (.iconst 1, 1) := by decide +kernel
theorem dX12_best_57 : decode cX12_best 57 = .ok (.iadd, 1) := by decide +kernel
theorem dX12_best_58 : decode cX12_best 58 = .ok (.imul, 1) := by decide +kernel
theorem dX12_best_59 : decode cX12_best 59 = .ok (.istore_n 3, 1) := by decide +kernel
theorem dX12_best_60 : decode cX12_best 60 = .ok (.iinc 6 1, 3) := by decide +kernel
theorem dX12_best_63 : decode cX12_best 63 = .ok (.goto (-44), 3) := by decide +kernel
theorem dX12_best_66 : decode cX12_best 66 = .ok (.aload_n 2, 1) := by decide +kernel
theorem dX12_best_67 : decode cX12_best 67 = .ok (.arraylength, 1) := by decide +kernel
theorem dX12_best_68 : decode cX12_best 68 = .ok (.iconst 1, 1) := by decide +kernel
theorem dX12_best_69 : decode cX12_best 69 = .ok (.iadd, 1) := by decide +kernel
theorem dX12_best_70 : decode cX12_best 70 = .ok (.newarray .int, 2) := by decide +kernel
theorem dX12_best_72 : decode cX12_best 72 = .ok (.astore 4, 2) := by decide +kernel
theorem dX12_best_74 : decode cX12_best 74 = .ok (.aload 4, 2) := by decide +kernel
theorem dX12_best_76 : decode cX12_best 76 = .ok (.aload_n 2, 1) := by decide +kernel
theorem dX12_best_77 : decode cX12_best 77 = .ok (.arraylength, 1) := by decide +kernel
theorem dX12_best_78 : decode cX12_best 78 = .ok (.iconst (-1), 1) := by decide +kernel
theorem dX12_best_79 : decode cX12_best 79 = .ok (.iastore, 1) := by decide +kernel
theorem dX12_best_80 : decode cX12_best 80 = .ok (.aload_n 2, 1) := by decide +kernel
theorem dX12_best_81 : decode cX12_best 81 = .ok (.arraylength, 1) := by decide +kernel
theorem dX12_best_82 : decode cX12_best 82 = .ok (.newarray .int, 2) := by decide +kernel
theorem dX12_best_84 : decode cX12_best 84 = .ok (.astore 5, 2) := by decide +kernel
theorem dX12_best_86 : decode cX12_best 86 = .ok (.iconst 0, 1) := by decide +kernel
theorem dX12_best_87 : decode cX12_best 87 = .ok (.istore 6, 2) := by decide +kernel
theorem dX12_best_89 : decode cX12_best 89 = .ok (.iload 6, 2) := by decide +kernel
theorem dX12_best_91 : decode cX12_best 91 = .ok (.iload_n 3, 1) := by decide +kernel
theorem dX12_best_92 : decode cX12_best 92 = .ok (.if_icmp .ge 165, 3) := by decide +kernel
theorem dX12_best_95 : decode cX12_best 95 = .ok (.iload 6, 2) := by decide +kernel
theorem dX12_best_97 : decode cX12_best 97 = .ok (.istore 7, 2) := by decide +kernel
theorem dX12_best_99 : decode cX12_best 99 = .ok (.aload_n 2, 1) := by decide +kernel
theorem dX12_best_100 : decode cX12_best 100 = .ok (.arraylength, 1) := by decide +kernel
theorem dX12_best_101 : decode cX12_best 101 = .ok (.iconst 1, 1) := by decide +kernel
theorem dX12_best_102 : decode cX12_best 102 = .ok (.isub, 1) := by decide +kernel
theorem dX12_best_103 : decode cX12_best 103 = .ok (.istore 8, 2) := by decide +kernel
theorem dX12_best_105 : decode cX12_best 105 = .ok (.iload 8, 2) := by decide +kernel
theorem dX12_best_107 : decode cX12_best 107 = .ok (.ifCond .lt 88, 3) := by decide +kernel
theorem dX12_best_110 : decode cX12_best 110 = .ok (.aload_n 0, 1) := by decide +kernel
theorem dX12_best_111 : decode cX12_best 111 = .ok (.getfield 15, 3) := by decide +kernel
theorem dX12_best_114 : decode cX12_best 114 = .ok (.aload_n 2, 1) := by decide +kernel
theorem dX12_best_115 : decode cX12_best 115 = .ok (.iload 8, 2) := by decide +kernel
theorem dX12_best_117 : decode cX12_best 117 = .ok (.iaload, 1) := by decide +kernel
theorem dX12_best_118 : decode cX12_best 118 = .ok (.aaload, 1) := by decide +kernel
theorem dX12_best_119 : decode cX12_best 119 = .ok (.bipush 7, 2) := by decide +kernel
theorem dX12_best_121 : decode cX12_best 121 = .ok (.iaload, 1) := by decide +kernel
theorem dX12_best_122 : decode cX12_best 122 = .ok (.iconst 1, 1) := by decide +kernel
theorem dX12_best_123 : decode cX12_best 123 = .ok (.if_icmp .ne 7, 3) := by decide +kernel
theorem dX12_best_126 : decode cX12_best 126 = .ok (.iconst 1, 1) := by decide +kernel
theorem dX12_best_127 : decode cX12_best 127 = .ok (.goto 4, 3) := by decide +kernel
theorem dX12_best_130 : decode cX12_best 130 = .ok (.iconst 0, 1) := by decide +kernel
theorem dX12_best_131 : decode cX12_best 131 = .ok (.istore 9, 2) := by decide +kernel
theorem dX12_best_133 : decode cX12_best 133 = .ok (.aload 5, 2) := by decide +kernel
theorem dX12_best_135 : decode cX12_best 135 = .ok (.iload 8, 2) := by decide +kernel
theorem dX12_best_137 : decode cX12_best 137 = .ok (.iload 9, 2) := by decide +kernel
theorem dX12_best_139 : decode cX12_best 139 = .ok (.ifCond .eq 17, 3) := by decide +kernel
theorem dX12_best_142 : decode cX12_best 142 = .ok (.aload_n 0, 1) := by decide +kernel
theorem dX12_best_143 : decode cX12_best 143 = .ok (.getfield 15, 3) := by decide +kernel
theorem dX12_best_146 : decode cX12_best 146 = .ok (.aload_n 2, 1) := by decide +kernel
theorem dX12_best_147 : decode cX12_best 147 = .ok (.iload 8, 2) := by decide +kernel
theorem dX12_best_149 : decode cX12_best 149 = .ok (.iaload, 1) := by decide +kernel
theorem dX12_best_150 : decode cX12_best 150 = .ok (.aaload, 1) := by decide +kernel
theorem dX12_best_151 : decode cX12_best 151 = .ok (.iconst 4, 1) := by decide +kernel
theorem dX12_best_152 : decode cX12_best 152 = .ok (.iaload, 1) := by decide +kernel
theorem dX12_best_153 : decode cX12_best 153 = .ok (.goto 14, 3) := by decide +kernel
theorem dX12_best_156 : decode cX12_best 156 = .ok (.iload 7, 2) := by decide +kernel
theorem dX12_best_158 : decode cX12_best 158 = .ok (.aload_n 0, 1) := by decide +kernel
theorem dX12_best_159 : decode cX12_best 159 = .ok (.getfield 42, 3) := by decide +kernel
theorem dX12_best_162 : decode cX12_best 162 = .ok (.iconst 1, 1) := by decide +kernel
theorem dX12_best_163 : decode cX12_best 163 = .ok (.iadd, 1) := by decide +kernel
theorem dX12_best_164 : decode cX12_best 164 = .ok (.irem, 1) := by decide +kernel
theorem dX12_best_165 : decode cX12_best 165 = .ok (.iconst 1, 1) := by decide +kernel
theorem dX12_best_166 : decode cX12_best 166 = .ok (.isub, 1) := by decide +kernel
theorem dX12_best_167 : decode cX12_best 167 = .ok (.iastore, 1) := by decide +kernel
theorem dX12_best_168 : decode cX12_best 168 = .ok (.iload 9, 2) := by decide +kernel
theorem dX12_best_170 : decode cX12_best 170 = .ok (.ifCond .eq 8, 3) := by decide +kernel
theorem dX12_best_173 : decode cX12_best 173 = .ok (.iload 7, 2) := by decide +kernel
theorem dX12_best_175 : decode cX12_best 175 = .ok (.goto 12, 3) := by decide +kernel
theorem dX12_best_178 : decode cX12_best 178 = .ok (.iload 7, 2) := by decide +kernel
theorem dX12_best_180 : decode cX12_best 180 = .ok (.aload_n 0, 1) := by decide +kernel
theorem dX12_best_181 : decode cX12_best 181 = .ok (.getfield 42, 3) := by decide +kernel
theorem dX12_best_184 : decode cX12_best 184 = .ok (.iconst 1, 1) := by decide +kernel
theorem dX12_best_185 : decode cX12_best 185 = .ok (.iadd, 1) := by decide +kernel
theorem dX12_best_186 : decode cX12_best 186 = .ok (.idiv, 1) := by decide +kernel
theorem dX12_best_187 : decode cX12_best 187 = .ok (.istore 7, 2) := by decide +kernel
theorem dX12_best_189 : decode cX12_best 189 = .ok (.iinc 8 (-1), 3) := by decide +kernel
theorem dX12_best_192 : decode cX12_best 192 = .ok (.goto (-87), 3) := by decide +kernel
theorem dX12_best_195 : decode cX12_best 195 = .ok (.aload_n 0, 1) := by decide +kernel
theorem dX12_best_196 : decode cX12_best 196 = .ok (.iload_n 1, 1) := by decide +kernel
theorem dX12_best_197 : decode cX12_best 197 = .ok (.aload_n 2, 1) := by decide +kernel
theorem dX12_best_198 : decode cX12_best 198 = .ok (.aload 5, 2) := by decide +kernel
theorem dX12_best_200 : decode cX12_best 200 = .ok (.invokevirtual 107, 3) := by decide +kernel
theorem dX12_best_203 : decode cX12_best 203 = .ok (.istore 8, 2) := by decide +kernel
theorem dX12_best_205 : decode cX12_best 205 = .ok (.iload 8, 2) := by decide +kernel
theorem dX12_best_207 : decode cX12_best 207 = .ok (.aload 4, 2) := by decide +kernel
theorem dX12_best_209 : decode cX12_best 209 = .ok (.aload_n 2, 1) := by decide +kernel
theorem dX12_best_210 : decode cX12_best 210 = .ok (.arraylength, 1) := by decide +kernel
theorem dX12_best_211 : decode cX12_best 211 = .ok (.iaload, 1) := by decide +kernel
theorem dX12_best_212 : decode cX12_best 212 = .ok (.if_icmp .gt 6, 3) := by decide +kernel
theorem dX12_best_215 : decode cX12_best 215 = .ok (.goto 36, 3) := by decide +kernel
theorem dX12_best_218 : decode cX12_best 218 = .ok (.aload 4, 2) := by decide +kernel
theorem dX12_best_220 : decode cX12_best 220 = .ok (.aload_n 2, 1) := by decide +kernel
theorem dX12_best_221 : decode cX12_best 221 = .ok (.arraylength, 1) := by decide +kernel
theorem dX12_best_222 : decode cX12_best 222 = .ok (.iload 8, 2) := by decide +kernel
theorem dX12_best_224 : decode cX12_best 224 = .ok (.iastore, 1) := by decide +kernel
theorem dX12_best_225 : decode cX12_best 225 = .ok (.iconst 0, 1) := by decide +kernel
theorem dX12_best_226 : decode cX12_best 226 = .ok (.istore 9, 2) := by decide +kernel
theorem dX12_best_228 : decode cX12_best 228 = .ok (.iload 9, 2) := by decide +kernel
theorem dX12_best_230 : decode cX12_best 230 = .ok (.aload_n 2, 1) := by decide +kernel
theorem dX12_best_231 : decode cX12_best 231 = .ok (.arraylength, 1) := by decide +kernel
theorem dX12_best_232 : decode cX12_best 232 = .ok (.if_icmp .ge 19, 3) := by decide +kernel
theorem dX12_best_235 : decode cX12_best 235 = .ok (.aload 4, 2) := by decide +kernel
theorem dX12_best_237 : decode cX12_best 237 = .ok (.iload 9, 2) := by decide +kernel
theorem dX12_best_239 : decode cX12_best 239 = .ok (.aload 5, 2) := by decide +kernel
theorem dX12_best_241 : decode cX12_best 241 = .ok (.iload 9, 2) := by decide +kernel
theorem dX12_best_243 : decode cX12_best 243 = .ok (.iaload, 1) := by decide +kernel
theorem dX12_best_244 : decode cX12_best 244 = .ok (.iastore, 1) := by decide +kernel
theorem dX12_best_245 : decode cX12_best 245 = .ok (.iinc 9 1, 3) := by decide +kernel
theorem dX12_best_248 : decode cX12_best 248 = .ok (.goto (-20), 3) := by decide +kernel
theorem dX12_best_251 : decode cX12_best 251 = .ok (.iinc 6 1, 3) := by decide +kernel
theorem dX12_best_254 : decode cX12_best 254 = .ok (.goto (-165), 3) := by decide +kernel
theorem dX12_best_257 : decode cX12_best 257 = .ok (.aload 4, 2) := by decide +kernel
theorem dX12_best_259 : decode cX12_best 259 = .ok (.areturn, 1) := by decide +kernel
theorem dX12_gain_0 : decode cX12_gain 0 = .ok (.iconst 0, 1) := by decide +kernel
theorem dX12_gain_1 : decode cX12_gain 1 = .ok (.istore 4, 2) := by decide +kernel
theorem dX12_gain_3 : decode cX12_gain 3 = .ok (.iconst 0, 1) := by decide +kernel
theorem dX12_gain_4 : decode cX12_gain 4 = .ok (.istore 5, 2) := by decide +kernel
theorem dX12_gain_6 : decode cX12_gain 6 = .ok (.iload 5, 2) := by decide +kernel
theorem dX12_gain_8 : decode cX12_gain 8 = .ok (.aload_n 0, 1) := by decide +kernel
theorem dX12_gain_9 : decode cX12_gain 9 = .ok (.getfield 42, 3) := by decide +kernel
theorem dX12_gain_12 : decode cX12_gain 12 = .ok (.if_icmp .ge 124, 3) := by decide +kernel
theorem dX12_gain_15 : decode cX12_gain 15 = .ok (.iconst 0, 1) := by decide +kernel
theorem dX12_gain_16 : decode cX12_gain 16 = .ok (.istore 6, 2) := by decide +kernel
theorem dX12_gain_18 : decode cX12_gain 18 = .ok (.iconst 0, 1) := by decide +kernel
theorem dX12_gain_19 : decode cX12_gain 19 = .ok (.istore 7, 2) := by decide +kernel
theorem dX12_gain_21 : decode cX12_gain 21 = .ok (.iconst 0, 1) := by decide +kernel
theorem dX12_gain_22 : decode cX12_gain 22 = .ok (.istore 8, 2) := by decide +kernel
theorem dX12_gain_24 : decode cX12_gain 24 = .ok (.iload 8, 2) := by decide +kernel
theorem dX12_gain_26 : decode cX12_gain 26 = .ok (.aload_n 2, 1) := by decide +kernel
theorem dX12_gain_27 : decode cX12_gain 27 = .ok (.arraylength, 1) := by decide +kernel
theorem dX12_gain_28 : decode cX12_gain 28 = .ok (.if_icmp .ge 37, 3) := by decide +kernel
theorem dX12_gain_31 : decode cX12_gain 31 = .ok (.aload_n 3, 1) := by decide +kernel
theorem dX12_gain_32 : decode cX12_gain 32 = .ok (.iload 8, 2) := by decide +kernel
theorem dX12_gain_34 : decode cX12_gain 34 = .ok (.iaload, 1) := by decide +kernel
theorem dX12_gain_35 : decode cX12_gain 35 = .ok (.iload 5, 2) := by decide +kernel
theorem dX12_gain_37 : decode cX12_gain 37 = .ok (.if_icmp .eq 6, 3) := by decide +kernel
theorem dX12_gain_40 : decode cX12_gain 40 = .ok (.goto 19, 3) := by decide +kernel
theorem dX12_gain_43 : decode cX12_gain 43 = .ok (.iinc 6 1, 3) := by decide +kernel
theorem dX12_gain_46 : decode cX12_gain 46 = .ok (.iload 7, 2) := by decide +kernel
theorem dX12_gain_48 : decode cX12_gain 48 = .ok (.aload_n 0, 1) := by decide +kernel
theorem dX12_gain_49 : decode cX12_gain 49 = .ok (.aload_n 2, 1) := by decide +kernel
theorem dX12_gain_50 : decode cX12_gain 50 = .ok (.iload 8, 2) := by decide +kernel
theorem dX12_gain_52 : decode cX12_gain 52 = .ok (.iaload, 1) := by decide +kernel
theorem dX12_gain_53 : decode cX12_gain 53 = .ok (.invokevirtual 69, 3) := by decide +kernel
theorem dX12_gain_56 : decode cX12_gain 56 = .ok (.iadd, 1) := by decide +kernel
theorem dX12_gain_57 : decode cX12_gain 57 = .ok (.istore 7, 2) := by decide +kernel
theorem dX12_gain_59 : decode cX12_gain 59 = .ok (.iinc 8 1, 3) := by decide +kernel
theorem dX12_gain_62 : decode cX12_gain 62 = .ok (.goto (-38), 3) := by decide +kernel
theorem dX12_gain_65 : decode cX12_gain 65 = .ok (.iload 6, 2) := by decide +kernel
theorem dX12_gain_67 : decode cX12_gain 67 = .ok (.aload_n 0, 1) := by decide +kernel
theorem dX12_gain_68 : decode cX12_gain 68 = .ok (.getfield 22, 3) := by decide +kernel
theorem dX12_gain_71 : decode cX12_gain 71 = .ok (.iload 5, 2) := by decide +kernel
theorem dX12_gain_73 : decode cX12_gain 73 = .ok (.aaload, 1) := by decide +kernel
theorem dX12_gain_74 : decode cX12_gain 74 = .ok (.iload_n 1, 1) := by decide +kernel
theorem dX12_gain_75 : decode cX12_gain 75 = .ok (.iconst 1, 1) := by decide +kernel
theorem dX12_gain_76 : decode cX12_gain 76 = .ok (.iadd, 1) := by decide +kernel
theorem dX12_gain_77 : decode cX12_gain 77 = .ok (.iaload, 1) := by decide +kernel
theorem dX12_gain_78 : decode cX12_gain 78 = .ok (.if_icmp .le 5, 3) := by decide +kernel
theorem dX12_gain_81 : decode cX12_gain 81 = .ok (.iconst (-1), 1) := by decide +kernel
theorem dX12_gain_82 : decode cX12_gain 82 = .ok (.ireturn, 1) := by decide +kernel
theorem dX12_gain_83 : decode cX12_gain 83 = .ok (.bipush 7, 2) := by decide +kernel
theorem dX12_gain_85 : decode cX12_gain 85 = .ok (.aload_n 0, 1) := by decide +kernel
theorem dX12_gain_86 : decode cX12_gain 86 = .ok (.getfield 9, 3) := by decide +kernel
theorem dX12_gain_89 : decode cX12_gain 89 = .ok (.iload_n 1, 1) := by decide +kernel
theorem dX12_gain_90 : decode cX12_gain 90 = .ok (.aaload, 1) := by decide +kernel
theorem dX12_gain_91 : decode cX12_gain 91 = .ok (.iconst 0, 1) := by decide +kernel
theorem dX12_gain_92 : decode cX12_gain 92 = .ok (.iaload, 1) := by decide +kernel
theorem dX12_gain_93 : decode cX12_gain 93 = .ok (.imul, 1) := by decide +kernel
theorem dX12_gain_94 : decode cX12_gain 94 = .ok (.aload_n 0, 1) := by decide +kernel
theorem dX12_gain_95 : decode cX12_gain 95 = .ok (.iload 5, 2) := by decide +kernel
theorem dX12_gain_97 : decode cX12_gain 97 = .ok (.invokevirtual 66, 3) := by decide +kernel
theorem dX12_gain_100 : decode cX12_gain 100 = .ok (.iload 7, 2) := by decide +kernel
theorem dX12_gain_102 : decode cX12_gain 102 = .ok (.invokestatic 72, 3) := by decide +kernel
theorem dX12_gain_105 : decode cX12_gain 105 = .ok (.imul, 1) := by decide +kernel
theorem dX12_gain_106 : decode cX12_gain 106 = .ok (.istore 8, 2) := by decide +kernel
theorem dX12_gain_108 : decode cX12_gain 108 = .ok (.iload 6, 2) := by decide +kernel
theorem dX12_gain_110 : decode cX12_gain 110 = .ok (.ifCond .le 20, 3) := by decide +kernel
theorem dX12_gain_113 : decode cX12_gain 113 = .ok (.iload 4, 2) := by decide +kernel
theorem dX12_gain_115 : decode cX12_gain 115 = .ok (.iload 8, 2) := by decide +kernel
theorem dX12_gain_117 : decode cX12_gain 117 = .ok (.aload_n 0, 1) := by decide +kernel
theorem dX12_gain_118 : decode cX12_gain 118 = .ok (.iload_n 1, 1) := by decide +kernel
theorem dX12_gain_119 : decode cX12_gain 119 = .ok (.iload 5, 2) := by decide +kernel
theorem dX12_gain_121 : decode cX12_gain 121 = .ok (.iload 8, 2) := by decide +kernel
theorem dX12_gain_123 : decode cX12_gain 123 = .ok (.invokevirtual 96, 3) := by decide +kernel
theorem dX12_gain_126 : decode cX12_gain 126 = .ok (.isub, 1) := by decide +kernel
theorem dX12_gain_127 : decode cX12_gain 127 = .ok (.iadd, 1) := by decide +kernel
theorem dX12_gain_128 : decode cX12_gain 128 = .ok (.istore 4, 2) := by decide +kernel
theorem dX12_gain_130 : decode cX12_gain 130 = .ok (.iinc 5 1, 3) := by decide +kernel
theorem dX12_gain_133 : decode cX12_gain 133 = .ok (.goto (-127), 3) := by decide +kernel
theorem dX12_gain_136 : decode cX12_gain 136 = .ok (.iload 4, 2) := by decide +kernel
theorem dX12_gain_138 : decode cX12_gain 138 = .ok (.ireturn, 1) := by decide +kernel
theorem dX12_book_0 : decode cX12_book 0 = .ok (.aload_n 0, 1) := by decide +kernel
theorem dX12_book_1 : decode cX12_book 1 = .ok (.getfield 15, 3) := by decide +kernel
theorem dX12_book_4 : decode cX12_book 4 = .ok (.iload_n 1, 1) := by decide +kernel
theorem dX12_book_5 : decode cX12_book 5 = .ok (.aaload, 1) := by decide +kernel
theorem dX12_book_6 : decode cX12_book 6 = .ok (.iconst 4, 1) := by decide +kernel
theorem dX12_book_7 : decode cX12_book 7 = .ok (.iload_n 2, 1) := by decide +kernel
theorem dX12_book_8 : decode cX12_book 8 = .ok (.iastore, 1) := by decide +kernel
theorem dX12_book_9 : decode cX12_book 9 = .ok (.aload_n 0, 1) := by decide +kernel
theorem dX12_book_10 : decode cX12_book 10 = .ok (.getfield 15, 3) := by decide +kernel
theorem dX12_book_13 : decode cX12_book 13 = .ok (.iload_n 1, 1) := by decide +kernel
theorem dX12_book_14 : decode cX12_book 14 = .ok (.aaload, 1) := by decide +kernel
theorem dX12_book_15 : decode cX12_book 15 = .ok (.iconst 5, 1) := by decide +kernel
theorem dX12_book_16 : decode cX12_book 16 = .ok (.iload_n 3, 1) := by decide +kernel
theorem dX12_book_17 : decode cX12_book 17 = .ok (.iastore, 1) := by decide +kernel
theorem dX12_book_18 : decode cX12_book 18 = .ok (.aload_n 0, 1) := by decide +kernel
theorem dX12_book_19 : decode cX12_book 19 = .ok (.getfield 15, 3) := by decide +kernel
theorem dX12_book_22 : decode cX12_book 22 = .ok (.iload_n 1, 1) := by decide +kernel
theorem dX12_book_23 : decode cX12_book 23 = .ok (.aaload, 1) := by decide +kernel
theorem dX12_book_24 : decode cX12_book 24 = .ok (.bipush 6, 2) := by decide +kernel
theorem dX12_book_26 : decode cX12_book 26 = .ok (.iload 4, 2) := by decide +kernel
theorem dX12_book_28 : decode cX12_book 28 = .ok (.iastore, 1) := by decide +kernel
theorem dX12_book_29 : decode cX12_book 29 = .ok (.aload_n 0, 1) := by decide +kernel
theorem dX12_book_30 : decode cX12_book 30 = .ok (.getfield 15, 3) := by decide +kernel
theorem dX12_book_33 : decode cX12_book 33 = .ok (.iload_n 1, 1) := by decide +kernel
theorem dX12_book_34 : decode cX12_book 34 = .ok (.aaload, 1) := by decide +kernel
theorem dX12_book_35 : decode cX12_book 35 = .ok (.bipush 7, 2) := by decide +kernel
theorem dX12_book_37 : decode cX12_book 37 = .ok (.iload 5, 2) := by decide +kernel
theorem dX12_book_39 : decode cX12_book 39 = .ok (.iastore, 1) := by decide +kernel
theorem dX12_book_40 : decode cX12_book 40 = .ok (.return_, 1) := by decide +kernel
theorem dX12_close_0 : decode cX12_close 0 = .ok (.iconst 5, 1) := by decide +kernel
theorem dX12_close_1 : decode cX12_close 1 = .ok (.newarray .int, 2) := by decide +kernel
theorem dX12_close_3 : decode cX12_close 3 = .ok (.dup, 1) := by decide +kernel
theorem dX12_close_4 : decode cX12_close 4 = .ok (.iconst 0, 1) := by decide +kernel
theorem dX12_close_5 : decode cX12_close 5 = .ok (.aload_n 0, 1) := by decide +kernel
theorem dX12_close_6 : decode cX12_close 6 = .ok (.iconst (-1), 1) := by decide +kernel
theorem dX12_close_7 : decode cX12_close 7 = .ok (.iconst (-1), 1) := by decide +kernel
theorem dX12_close_8 : decode cX12_close 8 = .ok (.invokevirtual 93, 3) := by decide +kernel
theorem dX12_close_11 : decode cX12_close 11 = .ok (.iastore, 1) := by decide +kernel
theorem dX12_close_12 : decode cX12_close 12 = .ok (.dup, 1) := by decide +kernel
theorem dX12_close_13 : decode cX12_close 13 = .ok (.iconst 1, 1) := by decide +kernel
theorem dX12_close_14 : decode cX12_close 14 = .ok (.iconst 0, 1) := by decide +kernel
theorem dX12_close_15 : decode cX12_close 15 = .ok (.iastore, 1) := by decide +kernel
theorem dX12_close_16 : decode cX12_close 16 = .ok (.dup, 1) := by decide +kernel
theorem dX12_close_17 : decode cX12_close 17 = .ok (.iconst 2, 1) := by decide +kernel
theorem dX12_close_18 : decode cX12_close 18 = .ok (.aload_n 0, 1) := by decide +kernel
theorem dX12_close_19 : decode cX12_close 19 = .ok (.iconst (-1), 1) := by decide +kernel
theorem dX12_close_20 : decode cX12_close 20 = .ok (.invokevirtual 121, 3) := by decide +kernel
theorem dX12_close_23 : decode cX12_close 23 = .ok (.iastore, 1) := by decide +kernel
theorem dX12_close_24 : decode cX12_close 24 = .ok (.dup, 1) := by decide +kernel
theorem dX12_close_25 : decode cX12_close 25 = .ok (.iconst 3, 1) := by decide +kernel
theorem dX12_close_26 : decode cX12_close 26 = .ok (.aload_n 0, 1) := by decide +kernel
theorem dX12_close_27 : decode cX12_close 27 = .ok (.getfield 48, 3) := by decide +kernel
theorem dX12_close_30 : decode cX12_close 30 = .ok (.aload_n 0, 1) := by decide +kernel
theorem dX12_close_31 : decode cX12_close 31 = .ok (.getfield 51, 3) := by decide +kernel
theorem dX12_close_34 : decode cX12_close 34 = .ok (.imul, 1) := by decide +kernel
theorem dX12_close_35 : decode cX12_close 35 = .ok (.iastore, 1) := by decide +kernel
theorem dX12_close_36 : decode cX12_close 36 = .ok (.dup, 1) := by decide +kernel
theorem dX12_close_37 : decode cX12_close 37 = .ok (.iconst 4, 1) := by decide +kernel
theorem dX12_close_38 : decode cX12_close 38 = .ok (.iconst 0, 1) := by decide +kernel
theorem dX12_close_39 : decode cX12_close 39 = .ok (.iastore, 1) := by decide +kernel
theorem dX12_close_40 : decode cX12_close 40 = .ok (.astore_n 1, 1) := by decide +kernel
theorem dX12_close_41 : decode cX12_close 41 = .ok (.iconst 0, 1) := by decide +kernel
theorem dX12_close_42 : decode cX12_close 42 = .ok (.istore_n 2, 1) := by decide +kernel
theorem dX12_close_43 : decode cX12_close 43 = .ok (.iload_n 2, 1) := by decide +kernel
theorem dX12_close_44 : decode cX12_close 44 = .ok (.aload_n 0, 1) := by decide +kernel
theorem dX12_close_45 : decode cX12_close 45 = .ok (.getfield 35, 3) := by decide +kernel
theorem dX12_close_48 : decode cX12_close 48 = .ok (.if_icmp .ge 20, 3) := by decide +kernel
theorem dX12_close_51 : decode cX12_close 51 = .ok (.aload_n 1, 1) := by decide +kernel
theorem dX12_close_52 : decode cX12_close 52 = .ok (.iconst 1, 1) := by decide +kernel
theorem dX12_close_53 : decode cX12_close 53 = .ok (.dup2, 1) := by decide +kernel
theorem dX12_close_54 : decode cX12_close 54 = .ok (.iaload, 1) := by decide +kernel
theorem dX12_close_55 : decode cX12_close 55 = .ok (.aload_n 0, 1) := by decide +kernel
theorem dX12_close_56 : decode cX12_close 56 = .ok (.iload_n 2, 1) := by decide +kernel
theorem dX12_close_57 : decode cX12_close 57 = .ok (.invokevirtual 124, 3) := by decide +kernel
theorem dX12_close_60 : decode cX12_close 60 = .ok (.iadd, 1) := by decide +kernel
theorem dX12_close_61 : decode cX12_close 61 = .ok (.iastore, 1) := by decide +kernel
theorem dX12_close_62 : decode cX12_close 62 = .ok (.iinc 2 1, 3) := by decide +kernel
theorem dX12_close_65 : decode cX12_close 65 = .ok (.goto (-22), 3) := by decide +kernel
theorem dX12_close_68 : decode cX12_close 68 = .ok (.iconst 0, 1) := by decide +kernel
theorem dX12_close_69 : decode cX12_close 69 = .ok (.istore_n 2, 1) := by decide +kernel
theorem dX12_close_70 : decode cX12_close 70 = .ok (.iload_n 2, 1) := by decide +kernel
theorem dX12_close_71 : decode cX12_close 71 = .ok (.iconst 4, 1) := by decide +kernel
theorem dX12_close_72 : decode cX12_close 72 = .ok (.if_icmp .ge 21, 3) := by decide +kernel
theorem dX12_close_75 : decode cX12_close 75 = .ok (.aload_n 0, 1) := by decide +kernel
theorem dX12_close_76 : decode cX12_close 76 = .ok (.getfield 28, 3) := by decide +kernel
theorem dX12_close_79 : decode cX12_close 79 = .ok (.iload_n 2, 1) := by decide +kernel
theorem dX12_close_80 : decode cX12_close 80 = .ok (.dup2, 1) := by decide +kernel
theorem dX12_close_81 : decode cX12_close 81 = .ok (.iaload, 1) := by decide +kernel
theorem dX12_close_82 : decode cX12_close 82 = .ok (.aload_n 1, 1) := by decide +kernel
theorem dX12_close_83 : decode cX12_close 83 = .ok (.iload_n 2, 1) := by decide +kernel
theorem dX12_close_84 : decode cX12_close 84 = .ok (.iaload, 1) := by decide +kernel
theorem dX12_close_85 : decode cX12_close 85 = .ok (.iadd, 1) := by decide +kernel
theorem dX12_close_86 : decode cX12_close 86 = .ok (.iastore, 1) := by decide +kernel
theorem dX12_close_87 : decode cX12_close 87 = .ok (.iinc 2 1, 3) := by decide +kernel
theorem dX12_close_90 : decode cX12_close 90 = .ok (.goto (-20), 3) := by decide +kernel
theorem dX12_close_93 : decode cX12_close 93 = .ok (.iconst 0, 1) := by decide +kernel
theorem dX12_close_94 : decode cX12_close 94 = .ok (.istore_n 2, 1) := by decide +kernel
theorem dX12_close_95 : decode cX12_close 95 = .ok (.iload_n 2, 1) := by decide +kernel
theorem dX12_close_96 : decode cX12_close 96 = .ok (.aload_n 0, 1) := by decide +kernel
theorem dX12_close_97 : decode cX12_close 97 = .ok (.getfield 42, 3) := by decide +kernel
theorem dX12_close_100 : decode cX12_close 100 = .ok (.if_icmp .ge 27, 3) := by decide +kernel
theorem dX12_close_103 : decode cX12_close 103 = .ok (.aload_n 0, 1) := by decide +kernel
theorem dX12_close_104 : decode cX12_close 104 = .ok (.getfield 18, 3) := by decide +kernel
theorem dX12_close_107 : decode cX12_close 107 = .ok (.iload_n 2, 1) := by decide +kernel
theorem dX12_close_108 : decode cX12_close 108 = .ok (.aaload, 1) := by decide +kernel
theorem dX12_close_109 : decode cX12_close 109 = .ok (.bipush 9, 2) := by decide +kernel
theorem dX12_close_111 : decode cX12_close 111 = .ok (.dup2, 1) := by decide +kernel
theorem dX12_close_112 : decode cX12_close 112 = .ok (.iaload, 1) := by decide +kernel
theorem dX12_close_113 : decode cX12_close 113 = .ok (.aload_n 0, 1) := by decide +kernel
theorem dX12_close_114 : decode cX12_close 114 = .ok (.iconst (-1), 1) := by decide +kernel
theorem dX12_close_115 : decode cX12_close 115 = .ok (.iload_n 2, 1) := by decide +kernel
theorem dX12_close_116 : decode cX12_close 116 = .ok (.invokevirtual 93, 3) := by decide +kernel
theorem dX12_close_119 : decode cX12_close 119 = .ok (.iadd, 1) := by decide +kernel
theorem dX12_close_120 : decode cX12_close 120 = .ok (.iastore, 1) := by decide +kernel
theorem dX12_close_121 : decode cX12_close 121 = .ok (.iinc 2 1, 3) := by decide +kernel
theorem dX12_close_124 : decode cX12_close 124 = .ok (.goto (-29), 3) := by decide +kernel
theorem dX12_close_127 : decode cX12_close 127 = .ok (.aload_n 0, 1) := by decide +kernel
theorem dX12_close_128 : decode cX12_close 128 = .ok (.getfield 39, 3) := by decide +kernel
theorem dX12_close_131 : decode cX12_close 131 = .ok (.newarray .boolean, 2) := by decide +kernel
theorem dX12_close_133 : decode cX12_close 133 = .ok (.astore_n 2, 1) := by decide +kernel
theorem dX12_close_134 : decode cX12_close 134 = .ok (.iconst 0, 1) := by decide +kernel
theorem dX12_close_135 : decode cX12_close 135 = .ok (.istore_n 3, 1) := by decide +kernel
theorem dX12_close_136 : decode cX12_close 136 = .ok (.iload_n 3, 1) := by decide +kernel
theorem dX12_close_137 : decode cX12_close 137 = .ok (.aload_n 0, 1) := by decide +kernel
theorem dX12_close_138 : decode cX12_close 138 = .ok (.getfield 39, 3) := by decide +kernel
theorem dX12_close_141 : decode cX12_close 141 = .ok (.if_icmp .ge 17, 3) := by decide +kernel
theorem dX12_close_144 : decode cX12_close 144 = .ok (.aload_n 2, 1) := by decide +kernel
theorem dX12_close_145 : decode cX12_close 145 = .ok (.iload_n 3, 1) := by decide +kernel
theorem dX12_close_146 : decode cX12_close 146 = .ok (.aload_n 0, 1) := by decide +kernel
theorem dX12_close_147 : decode cX12_close 147 = .ok (.iload_n 3, 1) := by decide +kernel
theorem dX12_close_148 : decode cX12_close 148 = .ok (.invokevirtual 127, 3) := by decide +kernel
theorem dX12_close_151 : decode cX12_close 151 = .ok (.bastore, 1) := by decide +kernel
theorem dX12_close_152 : decode cX12_close 152 = .ok (.iinc 3 1, 3) := by decide +kernel
theorem dX12_close_155 : decode cX12_close 155 = .ok (.goto (-19), 3) := by decide +kernel
theorem dX12_close_158 : decode cX12_close 158 = .ok (.aload_n 0, 1) := by decide +kernel
theorem dX12_close_159 : decode cX12_close 159 = .ok (.getfield 42, 3) := by decide +kernel
theorem dX12_close_162 : decode cX12_close 162 = .ok (.newarray .boolean, 2) := by decide +kernel
theorem dX12_close_164 : decode cX12_close 164 = .ok (.astore_n 3, 1) := by decide +kernel
theorem dX12_close_165 : decode cX12_close 165 = .ok (.iconst 0, 1) := by decide +kernel
theorem dX12_close_166 : decode cX12_close 166 = .ok (.istore 4, 2) := by decide +kernel
theorem dX12_close_168 : decode cX12_close 168 = .ok (.iload 4, 2) := by decide +kernel
theorem dX12_close_170 : decode cX12_close 170 = .ok (.aload_n 0, 1) := by decide +kernel
theorem dX12_close_171 : decode cX12_close 171 = .ok (.getfield 42, 3) := by decide +kernel
theorem dX12_close_174 : decode cX12_close 174 = .ok (.if_icmp .ge 57, 3) := by decide +kernel
theorem dX12_close_177 : decode cX12_close 177 = .ok (.iconst 0, 1) := by decide +kernel
theorem dX12_close_178 : decode cX12_close 178 = .ok (.istore 5, 2) := by decide +kernel
theorem dX12_close_180 : decode cX12_close 180 = .ok (.iload 5, 2) := by decide +kernel
theorem dX12_close_182 : decode cX12_close 182 = .ok (.aload_n 0, 1) := by decide +kernel
theorem dX12_close_183 : decode cX12_close 183 = .ok (.getfield 35, 3) := by decide +kernel
theorem dX12_close_186 : decode cX12_close 186 = .ok (.if_icmp .ge 39, 3) := by decide +kernel
theorem dX12_close_189 : decode cX12_close 189 = .ok (.aload_n 0, 1) := by decide +kernel
theorem dX12_close_190 : decode cX12_close 190 = .ok (.iload 5, 2) := by decide +kernel
theorem dX12_close_192 : decode cX12_close 192 = .ok (.iload 4, 2) := by decide +kernel
theorem dX12_close_194 : decode cX12_close 194 = .ok (.invokevirtual 89, 3) := by decide +kernel
theorem dX12_close_197 : decode cX12_close 197 = .ok (.ifCond .eq 22, 3) := by decide +kernel
theorem dX12_close_200 : decode cX12_close 200 = .ok (.aload_n 0, 1) := by decide +kernel
theorem dX12_close_201 : decode cX12_close 201 = .ok (.getfield 25, 3) := by decide +kernel
theorem dX12_close_204 : decode cX12_close 204 = .ok (.iload 5, 2) := by decide +kernel
theorem dX12_close_206 : decode cX12_close 206 = .ok (.aaload, 1) := by decide +kernel
theorem dX12_close_207 : decode cX12_close 207 = .ok (.iload 4, 2) := by decide +kernel
theorem dX12_close_209 : decode cX12_close 209 = .ok (.dup2, 1) := by decide +kernel
theorem dX12_close_210 : decode cX12_close 210 = .ok (.iaload, 1) := by decide +kernel
theorem dX12_close_211 : decode cX12_close 211 = .ok (.iconst 1, 1) := by decide +kernel
theorem dX12_close_212 : decode cX12_close 212 = .ok (.iadd, 1) := by decide +kernel
theorem dX12_close_213 : decode cX12_close 213 = .ok (.iastore, 1) := by decide +kernel
theorem dX12_close_214 : decode cX12_close 214 = .ok (.aload_n 3, 1) := by decide +kernel
theorem dX12_close_215 : decode cX12_close 215 = .ok (.iload 4, 2) := by decide +kernel
theorem dX12_close_217 : decode cX12_close 217 = .ok (.iconst 1, 1) := by decide +kernel
theorem dX12_close_218 : decode cX12_close 218 = .ok (.bastore, 1) := by decide +kernel
theorem dX12_close_219 : decode cX12_close 219 = .ok (.iinc 5 1, 3) := by decide +kernel
theorem dX12_close_222 : decode cX12_close 222 = .ok (.goto (-42), 3) := by decide +kernel
theorem dX12_close_225 : decode cX12_close 225 = .ok (.iinc 4 1, 3) := by decide +kernel
theorem dX12_close_228 : decode cX12_close 228 = .ok (.goto (-60), 3) := by decide +kernel
theorem dX12_close_231 : decode cX12_close 231 = .ok (.iconst 0, 1) := by decide +kernel
theorem dX12_close_232 : decode cX12_close 232 = .ok (.istore 4, 2) := by decide +kernel
theorem dX12_close_234 : decode cX12_close 234 = .ok (.iload 4, 2) := by decide +kernel
theorem dX12_close_236 : decode cX12_close 236 = .ok (.aload_n 0, 1) := by decide +kernel
theorem dX12_close_237 : decode cX12_close 237 = .ok (.getfield 42, 3) := by decide +kernel
theorem dX12_close_240 : decode cX12_close 240 = .ok (.if_icmp .ge 43, 3) := by decide +kernel
theorem dX12_close_243 : decode cX12_close 243 = .ok (.aload_n 3, 1) := by decide +kernel
theorem dX12_close_244 : decode cX12_close 244 = .ok (.iload 4, 2) := by decide +kernel
theorem dX12_close_246 : decode cX12_close 246 = .ok (.baload, 1) := by decide +kernel
theorem dX12_close_247 : decode cX12_close 247 = .ok (.ifCond .eq 30, 3) := by decide +kernel
theorem dX12_close_250 : decode cX12_close 250 = .ok (.aload_n 0, 1) := by decide +kernel
theorem dX12_close_251 : decode cX12_close 251 = .ok (.getfield 18, 3) := by decide +kernel
theorem dX12_close_254 : decode cX12_close 254 = .ok (.iload 4, 2) := by decide +kernel
theorem dX12_close_256 : decode cX12_close 256 = .ok (.aaload, 1) := by decide +kernel
theorem dX12_close_257 : decode cX12_close 257 = .ok (.bipush 8, 2) := by decide +kernel
theorem dX12_close_259 : decode cX12_close 259 = .ok (.iaload, 1) := by decide +kernel
theorem dX12_close_260 : decode cX12_close 260 = .ok (.ifCond .ge 17, 3) := by decide +kernel
theorem dX12_close_263 : decode cX12_close 263 = .ok (.aload_n 0, 1) := by decide +kernel
theorem dX12_close_264 : decode cX12_close 264 = .ok (.getfield 18, 3) := by decide +kernel
theorem dX12_close_267 : decode cX12_close 267 = .ok (.iload 4, 2) := by decide +kernel
theorem dX12_close_269 : decode cX12_close 269 = .ok (.aaload, 1) := by decide +kernel
theorem dX12_close_270 : decode cX12_close 270 = .ok (.bipush 8, 2) := by decide +kernel
theorem dX12_close_272 : decode cX12_close 272 = .ok (.aload_n 0, 1) := by decide +kernel
theorem dX12_close_273 : decode cX12_close 273 = .ok (.getfield 45, 3) := by decide +kernel
theorem dX12_close_276 : decode cX12_close 276 = .ok (.iastore, 1) := by decide +kernel
theorem dX12_close_277 : decode cX12_close 277 = .ok (.iinc 4 1, 3) := by decide +kernel
theorem dX12_close_280 : decode cX12_close 280 = .ok (.goto (-46), 3) := by decide +kernel
theorem dX12_close_283 : decode cX12_close 283 = .ok (.iconst 0, 1) := by decide +kernel
theorem dX12_close_284 : decode cX12_close 284 = .ok (.istore 4, 2) := by decide +kernel
theorem dX12_close_286 : decode cX12_close 286 = .ok (.iload 4, 2) := by decide +kernel
theorem dX12_close_288 : decode cX12_close 288 = .ok (.aload_n 0, 1) := by decide +kernel
theorem dX12_close_289 : decode cX12_close 289 = .ok (.getfield 39, 3) := by decide +kernel
theorem dX12_close_292 : decode cX12_close 292 = .ok (.if_icmp .ge 70, 3) := by decide +kernel
theorem dX12_close_295 : decode cX12_close 295 = .ok (.aload_n 0, 1) := by decide +kernel
theorem dX12_close_296 : decode cX12_close 296 = .ok (.iload 4, 2) := by decide +kernel
theorem dX12_close_298 : decode cX12_close 298 = .ok (.bipush 6, 2) := by decide +kernel
theorem dX12_close_300 : decode cX12_close 300 = .ok (.invokevirtual 62, 3) := by decide +kernel
theorem dX12_close_303 : decode cX12_close 303 = .ok (.istore 5, 2) := by decide +kernel
theorem dX12_close_305 : decode cX12_close 305 = .ok (.aload_n 0, 1) := by decide +kernel
theorem dX12_close_306 : decode cX12_close 306 = .ok (.iload 4, 2) := by decide +kernel
theorem dX12_close_308 : decode cX12_close 308 = .ok (.aload_n 2, 1) := by decide +kernel
theorem dX12_close_309 : decode cX12_close 309 = .ok (.iload 4, 2) := by decide +kernel
theorem dX12_close_311 : decode cX12_close 311 = .ok (.baload, 1) := by decide +kernel
theorem dX12_close_312 : decode cX12_close 312 = .ok (.ifCond .eq 8, 3) := by decide +kernel
theorem dX12_close_315 : decode cX12_close 315 = .ok (.iload 5, 2) := by decide +kernel
theorem dX12_close_317 : decode cX12_close 317 = .ok (.goto 4, 3) := by decide +kernel
theorem dX12_close_320 : decode cX12_close 320 = .ok (.iconst (-1), 1) := by decide +kernel
theorem dX12_close_321 : decode cX12_close 321 = .ok (.iconst (-1), 1) := by decide +kernel
theorem dX12_close_322 : decode cX12_close 322 = .ok (.iconst 0, 1) := by decide +kernel
theorem dX12_close_323 : decode cX12_close 323 = .ok (.aload_n 2, 1) := by decide +kernel
theorem dX12_close_324 : decode cX12_close 324 = .ok (.iload 4, 2) := by decide +kernel
theorem dX12_close_326 : decode cX12_close 326 = .ok (.baload, 1) := by decide +kernel
theorem dX12_close_327 : decode cX12_close 327 = .ok (.ifCond .eq 7, 3) := by decide +kernel
theorem dX12_close_330 : decode cX12_close 330 = .ok (.iconst 1, 1) := by decide +kernel
theorem dX12_close_331 : decode cX12_close 331 = .ok (.goto 4, 3) := by decide +kernel
theorem dX12_close_334 : decode cX12_close 334 = .ok (.iconst 0, 1) := by decide +kernel
theorem dX12_close_335 : decode cX12_close 335 = .ok (.invokevirtual 131, 3) := by decide +kernel
theorem dX12_close_338 : decode cX12_close 338 = .ok (.aload_n 1, 1) := by decide +kernel
theorem dX12_close_339 : decode cX12_close 339 = .ok (.iconst 4, 1) := by decide +kernel
theorem dX12_close_340 : decode cX12_close 340 = .ok (.dup2, 1) := by decide +kernel
theorem dX12_close_341 : decode cX12_close 341 = .ok (.iaload, 1) := by decide +kernel
theorem dX12_close_342 : decode cX12_close 342 = .ok (.aload_n 2, 1) := by decide +kernel
theorem dX12_close_343 : decode cX12_close 343 = .ok (.iload 4, 2) := by decide +kernel
theorem dX12_close_345 : decode cX12_close 345 = .ok (.baload, 1) := by decide +kernel
theorem dX12_close_346 : decode cX12_close 346 = .ok (.ifCond .eq 7, 3) := by decide +kernel
theorem dX12_close_349 : decode cX12_close 349 = .ok (.iconst 1, 1) := by decide +kernel
theorem dX12_close_350 : decode cX12_close 350 = .ok (.goto 4, 3) := by decide +kernel
theorem dX12_close_353 : decode cX12_close 353 = .ok (.iconst 0, 1) := by decide +kernel
theorem dX12_close_354 : decode cX12_close 354 = .ok (.iadd, 1) := by decide +kernel
theorem dX12_close_355 : decode cX12_close 355 = .ok (.iastore, 1) := by decide +kernel
theorem dX12_close_356 : decode cX12_close 356 = .ok (.iinc 4 1, 3) := by decide +kernel
theorem dX12_close_359 : decode cX12_close 359 = .ok (.goto (-73), 3) := by decide +kernel
theorem dX12_close_362 : decode cX12_close 362 = .ok (.aload_n 0, 1) := by decide +kernel
theorem dX12_close_363 : decode cX12_close 363 = .ok (.getfield 31, 3) := by decide +kernel
theorem dX12_close_366 : decode cX12_close 366 = .ok (.aload_n 0, 1) := by decide +kernel
theorem dX12_close_367 : decode cX12_close 367 = .ok (.dup, 1) := by decide +kernel
theorem dX12_close_368 : decode cX12_close 368 = .ok (.getfield 45, 3) := by decide +kernel
theorem dX12_close_371 : decode cX12_close 371 = .ok (.dup_x1, 1) := by decide +kernel
theorem dX12_close_372 : decode cX12_close 372 = .ok (.iconst 1, 1) := by decide +kernel
theorem dX12_close_373 : decode cX12_close 373 = .ok (.iadd, 1) := by decide +kernel
theorem dX12_close_374 : decode cX12_close 374 = .ok (.putfield 45, 3) := by decide +kernel
theorem dX12_close_377 : decode cX12_close 377 = .ok (.aload_n 1, 1) := by decide +kernel
theorem dX12_close_378 : decode cX12_close 378 = .ok (.aastore, 1) := by decide +kernel
theorem dX12_close_379 : decode cX12_close 379 = .ok (.aload_n 0, 1) := by decide +kernel
theorem dX12_close_380 : decode cX12_close 380 = .ok (.iconst 0, 1) := by decide +kernel
theorem dX12_close_381 : decode cX12_close 381 = .ok (.putfield 51, 3) := by decide +kernel
theorem dX12_close_384 : decode cX12_close 384 = .ok (.aload_n 1, 1) := by decide +kernel
theorem dX12_close_385 : decode cX12_close 385 = .ok (.iconst 0, 1) := by decide +kernel
theorem dX12_close_386 : decode cX12_close 386 = .ok (.iaload, 1) := by decide +kernel
theorem dX12_close_387 : decode cX12_close 387 = .ok (.ireturn, 1) := by decide +kernel
