theorem dX1_init_0 : decode cX1_init 0 = .ok (.aload_n 0, 1) := by decide +kernel
theorem dX1_init_1 : decode cX1_init 1 = .ok (.invokespecial 3, 3) := by decide +kernel
theorem dX1_init_4 : decode cX1_init 4 = .ok (.aload_n 0, 1) := by decide +kernel
theorem dX1_init_5 : decode cX1_init 5 = .ok (.iconst 4, 1) := by decide +kernel
theorem dX1_init_6 : decode cX1_init 6 = .ok (.newarray .int, 2) := by decide +kernel
theorem dX1_init_8 : decode cX1_init 8 = .ok (.putfield 9, 3) := by decide +kernel
theorem dX1_init_11 : decode cX1_init 11 = .ok (.aload_n 0, 1) := by decide +kernel
theorem dX1_init_12 : decode cX1_init 12 = .ok (.iconst 4, 1) := by decide +kernel
theorem dX1_init_13 : decode cX1_init 13 = .ok (.newarray .int, 2) := by decide +kernel
theorem dX1_init_15 : decode cX1_init 15 = .ok (.putfield 15, 3) := by decide +kernel
theorem dX1_init_18 : decode cX1_init 18 = .ok (.aload_n 0, 1) := by decide +kernel
theorem dX1_init_19 : decode cX1_init 19 = .ok (.bipush 10, 2) := by decide +kernel
theorem dX1_init_21 : decode cX1_init 21 = .ok (.newarray .int, 2) := by decide +kernel
theorem dX1_init_23 : decode cX1_init 23 = .ok (.putfield 18, 3) := by decide +kernel
theorem dX1_init_26 : decode cX1_init 26 = .ok (.aload_n 0, 1) := by decide +kernel
theorem dX1_init_27 : decode cX1_init 27 = .ok (.bipush 10, 2) := by decide +kernel
theorem dX1_init_29 : decode cX1_init 29 = .ok (.newarray .int, 2) := by decide +kernel
theorem dX1_init_31 : decode cX1_init 31 = .ok (.putfield 21, 3) := by decide +kernel
theorem dX1_init_34 : decode cX1_init 34 = .ok (.aload_n 0, 1) := by decide +kernel
theorem dX1_init_35 : decode cX1_init 35 = .ok (.bipush 10, 2) := by decide +kernel
theorem dX1_init_37 : decode cX1_init 37 = .ok (.newarray .int, 2) := by decide +kernel
theorem dX1_init_39 : decode cX1_init 39 = .ok (.putfield 24, 3) := by decide +kernel
theorem dX1_init_42 : decode cX1_init 42 = .ok (.aload_n 0, 1) := by decide +kernel
theorem dX1_init_43 : decode cX1_init 43 = .ok (.bipush 6, 2) := by decide +kernel
theorem dX1_init_45 : decode cX1_init 45 = .ok (.newarray .int, 2) := by decide +kernel
theorem dX1_init_47 : decode cX1_init 47 = .ok (.putfield 27, 3) := by decide +kernel
theorem dX1_init_50 : decode cX1_init 50 = .ok (.aload_n 0, 1) := by decide +kernel
theorem dX1_init_51 : decode cX1_init 51 = .ok (.bipush 6, 2) := by decide +kernel
theorem dX1_init_53 : decode cX1_init 53 = .ok (.newarray .int, 2) := by decide +kernel
theorem dX1_init_55 : decode cX1_init 55 = .ok (.putfield 30, 3) := by decide +kernel
theorem dX1_init_58 : decode cX1_init 58 = .ok (.aload_n 0, 1) := by decide +kernel
theorem dX1_init_59 : decode cX1_init 59 = .ok (.bipush 6, 2) := by decide +kernel
theorem dX1_init_61 : decode cX1_init 61 = .ok (.newarray .int, 2) := by decide +kernel
theorem dX1_init_63 : decode cX1_init 63 = .ok (.putfield 33, 3) := by decide +kernel
theorem dX1_init_66 : decode cX1_init 66 = .ok (.aload_n 0, 1) := by decide +kernel
theorem dX1_init_67 : decode cX1_init 67 = .ok (.bipush 6, 2) := by decide +kernel
theorem dX1_init_69 : decode cX1_init 69 = .ok (.newarray .int, 2) := by decide +kernel
theorem dX1_init_71 : decode cX1_init 71 = .ok (.putfield 36, 3) := by decide +kernel
theorem dX1_init_74 : decode cX1_init 74 = .ok (.aload_n 0, 1) := by decide +kernel
theorem dX1_init_75 : decode cX1_init 75 = .ok (.bipush 24, 2) := by decide +kernel
theorem dX1_init_77 : decode cX1_init 77 = .ok (.newarray .int, 2) := by decide +kernel
theorem dX1_init_79 : decode cX1_init 79 = .ok (.putfield 39, 3) := by decide +kernel
theorem dX1_init_82 : decode cX1_init 82 = .ok (.return_, 1) := by decide +kernel
theorem dX1_clear_0 : decode cX1_clear 0 = .ok (.aload_n 0, 1) := by decide +kernel
theorem dX1_clear_1 : decode cX1_clear 1 = .ok (.iconst 0, 1) := by decide +kernel
theorem dX1_clear_2 : decode cX1_clear 2 = .ok (.putfield 42, 3) := by decide +kernel
theorem dX1_clear_5 : decode cX1_clear 5 = .ok (.aload_n 0, 1) := by decide +kernel
theorem dX1_clear_6 : decode cX1_clear 6 = .ok (.iconst 0, 1) := by decide +kernel
theorem dX1_clear_7 : decode cX1_clear 7 = .ok (.putfield 46, 3) := by decide +kernel
theorem dX1_clear_10 : decode cX1_clear 10 = .ok (.aload_n 0, 1) := by decide +kernel
theorem dX1_clear_11 : decode cX1_clear 11 = .ok (.iconst 0, 1) := by decide +kernel
theorem dX1_clear_12 : decode cX1_clear 12 = .ok (.putfield 49, 3) := by decide +kernel
theorem dX1_clear_15 : decode cX1_clear 15 = .ok (.return_, 1) := by decide +kernel
theorem dX1_copyFrom_0 : decode cX1_copyFrom 0 = .ok (.aload_n 0, 1) := by decide +kernel
theorem dX1_copyFrom_1 : decode cX1_copyFrom 1 = .ok (.aload_n 1, 1) := by decide +kernel
theorem dX1_copyFrom_2 : decode cX1_copyFrom 2 = .ok (.getfield 42, 3) := by decide +kernel
theorem dX1_copyFrom_5 : decode cX1_copyFrom 5 = .ok (.putfield 42, 3) := by decide +kernel
theorem dX1_copyFrom_8 : decode cX1_copyFrom 8 = .ok (.aload_n 1, 1) := by decide +kernel
theorem dX1_copyFrom_9 : decode cX1_copyFrom 9 = .ok (.getfield 9, 3) := by decide +kernel
theorem dX1_copyFrom_12 : decode cX1_copyFrom 12 = .ok (.aload_n 0, 1) := by decide +kernel
theorem dX1_copyFrom_13 : decode cX1_copyFrom 13 = .ok (.getfield 9, 3) := by decide +kernel
theorem dX1_copyFrom_16 : decode cX1_copyFrom 16 = .ok (.invokestatic 52, 3) := by decide +kernel
theorem dX1_copyFrom_19 : decode cX1_copyFrom 19 = .ok (.aload_n 1, 1) := by decide +kernel
theorem dX1_copyFrom_20 : decode cX1_copyFrom 20 = .ok (.getfield 15, 3) := by decide +kernel
theorem dX1_copyFrom_23 : decode cX1_copyFrom 23 = .ok (.aload_n 0, 1) := by decide +kernel
theorem dX1_copyFrom_24 : decode cX1_copyFrom 24 = .ok (.getfield 15, 3) := by decide +kernel
theorem dX1_copyFrom_27 : decode cX1_copyFrom 27 = .ok (.invokestatic 52, 3) := by decide +kernel
theorem dX1_copyFrom_30 : decode cX1_copyFrom 30 = .ok (.aload_n 0, 1) := by decide +kernel
theorem dX1_copyFrom_31 : decode cX1_copyFrom 31 = .ok (.aload_n 1, 1) := by decide +kernel
theorem dX1_copyFrom_32 : decode cX1_copyFrom 32 = .ok (.getfield 46, 3) := by decide +kernel
theorem dX1_copyFrom_35 : decode cX1_copyFrom 35 = .ok (.putfield 46, 3) := by decide +kernel
theorem dX1_copyFrom_38 : decode cX1_copyFrom 38 = .ok (.aload_n 1, 1) := by decide +kernel
theorem dX1_copyFrom_39 : decode cX1_copyFrom 39 = .ok (.getfield 18, 3) := by decide +kernel
theorem dX1_copyFrom_42 : decode cX1_copyFrom 42 = .ok (.aload_n 0, 1) := by decide +kernel
theorem dX1_copyFrom_43 : decode cX1_copyFrom 43 = .ok (.getfield 18, 3) := by decide +kernel
theorem dX1_copyFrom_46 : decode cX1_copyFrom 46 = .ok (.invokestatic 52, 3) := by decide +kernel
theorem dX1_copyFrom_49 : decode cX1_copyFrom 49 = .ok (.aload_n 1, 1) := by decide +kernel
theorem dX1_copyFrom_50 : decode cX1_copyFrom 50 = .ok (.getfield 21, 3) := by decide +kernel
theorem dX1_copyFrom_53 : decode cX1_copyFrom 53 = .ok (.aload_n 0, 1) := by decide +kernel
theorem dX1_copyFrom_54 : decode cX1_copyFrom 54 = .ok (.getfield 21, 3) := by decide +kernel
theorem dX1_copyFrom_57 : decode cX1_copyFrom 57 = .ok (.invokestatic 52, 3) := by decide +kernel
theorem dX1_copyFrom_60 : decode cX1_copyFrom 60 = .ok (.aload_n 1, 1) := by decide +kernel
theorem dX1_copyFrom_61 : decode cX1_copyFrom 61 = .ok (.getfield 24, 3) := by decide +kernel
theorem dX1_copyFrom_64 : decode cX1_copyFrom 64 = .ok (.aload_n 0, 1) := by decide +kernel
theorem dX1_copyFrom_65 : decode cX1_copyFrom 65 = .ok (.getfield 24, 3) := by decide +kernel
theorem dX1_copyFrom_68 : decode cX1_copyFrom 68 = .ok (.invokestatic 52, 3) := by decide +kernel
theorem dX1_copyFrom_71 : decode cX1_copyFrom 71 = .ok (.aload_n 0, 1) := by decide +kernel
theorem dX1_copyFrom_72 : decode cX1_copyFrom 72 = .ok (.aload_n 1, 1) := by decide +kernel
theorem dX1_copyFrom_73 : decode cX1_copyFrom 73 = .ok (.getfield 49, 3) := by decide +kernel
theorem dX1_copyFrom_76 : decode cX1_copyFrom 76 = .ok (.putfield 49, 3) := by decide +kernel
theorem dX1_copyFrom_79 : decode cX1_copyFrom 79 = .ok (.aload_n 1, 1) := by decide +kernel
theorem dX1_copyFrom_80 : decode cX1_copyFrom 80 = .ok (.getfield 27, 3) := by decide +kernel
theorem dX1_copyFrom_83 : decode cX1_copyFrom 83 = .ok (.aload_n 0, 1) := by decide +kernel
theorem dX1_copyFrom_84 : decode cX1_copyFrom 84 = .ok (.getfield 27, 3) := by decide +kernel
theorem dX1_copyFrom_87 : decode cX1_copyFrom 87 = .ok (.invokestatic 52, 3) := by decide +kernel
theorem dX1_copyFrom_90 : decode cX1_copyFrom 90 = .ok (.aload_n 1, 1) := by decide +kernel
theorem dX1_copyFrom_91 : decode cX1_copyFrom 91 = .ok (.getfield 30, 3) := by decide +kernel
theorem dX1_copyFrom_94 : decode cX1_copyFrom 94 = .ok (.aload_n 0, 1) := by decide +kernel
theorem dX1_copyFrom_95 : decode cX1_copyFrom 95 = .ok (.getfield 30, 3) := by decide +kernel
theorem dX1_copyFrom_98 : decode cX1_copyFrom 98 = .ok (.invokestatic 52, 3) := by decide +kernel
theorem dX1_copyFrom_101 : decode cX1_copyFrom 101 = .ok (.aload_n 1, 1) := by decide +kernel
theorem dX1_copyFrom_102 : decode cX1_copyFrom 102 = .ok (.getfield 33, 3) := by decide +kernel
theorem dX1_copyFrom_105 : decode cX1_copyFrom 105 = .ok (.aload_n 0, 1) := by decide +kernel
theorem dX1_copyFrom_106 : decode cX1_copyFrom 106 = .ok (.getfield 33, 3) := by decide +kernel
theorem dX1_copyFrom_109 : decode cX1_copyFrom 109 = .ok (.invokestatic 52, 3) := by decide +kernel
theorem dX1_copyFrom_112 : decode cX1_copyFrom 112 = .ok (.aload_n 1, 1) := by decide +kernel
theorem dX1_copyFrom_113 : decode cX1_copyFrom 113 = .ok (.getfield 36, 3) := by decide +kernel
theorem dX1_copyFrom_116 : decode cX1_copyFrom 116 = .ok (.aload_n 0, 1) := by decide +kernel
theorem dX1_copyFrom_117 : decode cX1_copyFrom 117 = .ok (.getfield 36, 3) := by decide +kernel
theorem dX1_copyFrom_120 : decode cX1_copyFrom 120 = .ok (.invokestatic 52, 3) := by decide +kernel
theorem dX1_copyFrom_123 : decode cX1_copyFrom 123 = .ok (.aload_n 1, 1) := by decide +kernel
theorem dX1_copyFrom_124 : decode cX1_copyFrom 124 = .ok (.getfield 39, 3) := by decide +kernel
theorem dX1_copyFrom_127 : decode cX1_copyFrom 127 = .ok (.aload_n 0, 1) := by decide +kernel
theorem dX1_copyFrom_128 : decode cX1_copyFrom 128 = .ok (.getfield 39, 3) := by decide +kernel
theorem dX1_copyFrom_131 : decode cX1_copyFrom 131 = .ok (.invokestatic 52, 3) := by decide +kernel
theorem dX1_copyFrom_134 : decode cX1_copyFrom 134 = .ok (.return_, 1) := by decide +kernel
theorem dX1_capacityOf_0 : decode cX1_capacityOf 0 = .ok (.aload_n 0, 1) := by decide +kernel
theorem dX1_capacityOf_1 : decode cX1_capacityOf 1 = .ok (.getfield 21, 3) := by decide +kernel
theorem dX1_capacityOf_4 : decode cX1_capacityOf 4 = .ok (.iload_n 1, 1) := by decide +kernel
theorem dX1_capacityOf_5 : decode cX1_capacityOf 5 = .ok (.iaload, 1) := by decide +kernel
theorem dX1_capacityOf_6 : decode cX1_capacityOf 6 = .ok (.aload_n 0, 1) := by decide +kernel
theorem dX1_capacityOf_7 : decode cX1_capacityOf 7 = .ok (.getfield 24, 3) := by decide +kernel
theorem dX1_capacityOf_10 : decode cX1_capacityOf 10 = .ok (.iload_n 1, 1) := by decide +kernel
theorem dX1_capacityOf_11 : decode cX1_capacityOf 11 = .ok (.iaload, 1) := by decide +kernel
theorem dX1_capacityOf_12 : decode cX1_capacityOf 12 = .ok (.imul, 1) := by decide +kernel
theorem dX1_capacityOf_13 : decode cX1_capacityOf 13 = .ok (.ireturn, 1) := by decide +kernel
theorem dX1_priceAt_0 : decode cX1_priceAt 0 = .ok (.aload_n 0, 1) := by decide +kernel
theorem dX1_priceAt_1 : decode cX1_priceAt 1 = .ok (.getfield 9, 3) := by decide +kernel
theorem dX1_priceAt_4 : decode cX1_priceAt 4 = .ok (.aload_n 0, 1) := by decide +kernel
theorem dX1_priceAt_5 : decode cX1_priceAt 5 = .ok (.getfield 18, 3) := by decide +kernel
theorem dX1_priceAt_8 : decode cX1_priceAt 8 = .ok (.iload_n 1, 1) := by decide +kernel
theorem dX1_priceAt_9 : decode cX1_priceAt 9 = .ok (.iaload, 1) := by decide +kernel
theorem dX1_priceAt_10 : decode cX1_priceAt 10 = .ok (.iaload, 1) := by decide +kernel
theorem dX1_priceAt_11 : decode cX1_priceAt 11 = .ok (.ireturn, 1) := by decide +kernel
theorem dX2_init_0 : decode cX2_init 0 = .ok (.aload_n 0, 1) := by decide +kernel
theorem dX2_init_1 : decode cX2_init 1 = .ok (.invokespecial 3, 3) := by decide +kernel
theorem dX2_init_4 : decode cX2_init 4 = .ok (.aload_n 0, 1) := by decide +kernel
theorem dX2_init_5 : decode cX2_init 5 = .ok (.new 9, 3) := by decide +kernel
theorem dX2_init_8 : decode cX2_init 8 = .ok (.dup, 1) := by decide +kernel
theorem dX2_init_9 : decode cX2_init 9 = .ok (.invokespecial 11, 3) := by decide +kernel
theorem dX2_init_12 : decode cX2_init 12 = .ok (.putfield 12, 3) := by decide +kernel
theorem dX2_init_15 : decode cX2_init 15 = .ok (.aload_n 0, 1) := by decide +kernel
theorem dX2_init_16 : decode cX2_init 16 = .ok (.new 18, 3) := by decide +kernel
theorem dX2_init_19 : decode cX2_init 19 = .ok (.dup, 1) := by decide +kernel
theorem dX2_init_20 : decode cX2_init 20 = .ok (.invokespecial 20, 3) := by decide +kernel
theorem dX2_init_23 : decode cX2_init 23 = .ok (.putfield 21, 3) := by decide +kernel
theorem dX2_init_26 : decode cX2_init 26 = .ok (.aload_n 0, 1) := by decide +kernel
theorem dX2_init_27 : decode cX2_init 27 = .ok (.aload_n 1, 1) := by decide +kernel
theorem dX2_init_28 : decode cX2_init 28 = .ok (.putfield 25, 3) := by decide +kernel
theorem dX2_init_31 : decode cX2_init 31 = .ok (.return_, 1) := by decide +kernel
theorem dX2_read_0 : decode cX2_read 0 = .ok (.aload_n 0, 1) := by decide +kernel
theorem dX2_read_1 : decode cX2_read 1 = .ok (.getfield 12, 3) := by decide +kernel
theorem dX2_read_4 : decode cX2_read 4 = .ok (.invokevirtual 29, 3) := by decide +kernel
theorem dX2_read_7 : decode cX2_read 7 = .ok (.aload_n 0, 1) := by decide +kernel
theorem dX2_read_8 : decode cX2_read 8 = .ok (.getfield 21, 3) := by decide +kernel
theorem dX2_read_11 : decode cX2_read 11 = .ok (.invokevirtual 32, 3) := by decide +kernel
theorem dX2_read_14 : decode cX2_read 14 = .ok (.aload_n 0, 1) := by decide +kernel
theorem dX2_read_15 : decode cX2_read 15 = .ok (.getfield 25, 3) := by decide +kernel
theorem dX2_read_18 : decode cX2_read 18 = .ok (.iload_n 1, 1) := by decide +kernel
theorem dX2_read_19 : decode cX2_read 19 = .ok (.invokevirtual 33, 3) := by decide +kernel
theorem dX2_read_22 : decode cX2_read 22 = .ok (.iconst 0, 1) := by decide +kernel
theorem dX2_read_23 : decode cX2_read 23 = .ok (.istore_n 2, 1) := by decide +kernel
theorem dX2_read_24 : decode cX2_read 24 = .ok (.iload_n 2, 1) := by decide +kernel
theorem dX2_read_25 : decode cX2_read 25 = .ok (.sipush 700, 3) := by decide +kernel
theorem dX2_read_28 : decode cX2_read 28 = .ok (.if_icmp .ge 23, 3) := by decide +kernel
theorem dX2_read_31 : decode cX2_read 31 = .ok (.aload_n 0, 1) := by decide +kernel
theorem dX2_read_32 : decode cX2_read 32 = .ok (.getfield 25, 3) := by decide +kernel
theorem dX2_read_35 : decode cX2_read 35 = .ok (.getfield 39, 3) := by decide +kernel
theorem dX2_read_38 : decode cX2_read 38 = .ok (.ifCond .eq 13, 3) := by decide +kernel
theorem dX2_read_41 : decode cX2_read 41 = .ok (.aload_n 0, 1) := by decide +kernel
theorem dX2_read_42 : decode cX2_read 42 = .ok (.invokevirtual 43, 3) := by decide +kernel
theorem dX2_read_45 : decode cX2_read 45 = .ok (.iinc 2 1, 3) := by decide +kernel
theorem dX2_read_48 : decode cX2_read 48 = .ok (.goto (-24), 3) := by decide +kernel
theorem dX2_read_51 : decode cX2_read 51 = .ok (.return_, 1) := by decide +kernel
theorem dX2_readClause_0 : decode cX2_readClause 0 = .ok (.aload_n 0, 1) := by decide +kernel
theorem dX2_readClause_1 : decode cX2_readClause 1 = .ok (.getfield 25, 3) := by decide +kernel
theorem dX2_readClause_4 : decode cX2_readClause 4 = .ok (.ldc 46, 2) := by decide +kernel
theorem dX2_readClause_6 : decode cX2_readClause 6 = .ok (.invokevirtual 48, 3) := by decide +kernel
theorem dX2_readClause_9 : decode cX2_readClause 9 = .ok (.ifCond .eq 10, 3) := by decide +kernel
theorem dX2_readClause_12 : decode cX2_readClause 12 = .ok (.aload_n 0, 1) := by decide +kernel
theorem dX2_readClause_13 : decode cX2_readClause 13 = .ok (.invokevirtual 52, 3) := by decide +kernel
theorem dX2_readClause_16 : decode cX2_readClause 16 = .ok (.goto 87, 3) := by decide +kernel
theorem dX2_readClause_19 : decode cX2_readClause 19 = .ok (.aload_n 0, 1) := by decide +kernel
theorem dX2_readClause_20 : decode cX2_readClause 20 = .ok (.getfield 25, 3) := by decide +kernel
theorem dX2_readClause_23 : decode cX2_readClause 23 = .ok (.ldc 55, 2) := by decide +kernel
theorem dX2_readClause_25 : decode cX2_readClause 25 = .ok (.invokevirtual 48, 3) := by decide +kernel
theorem dX2_readClause_28 : decode cX2_readClause 28 = .ok (.ifCond .eq 10, 3) := by decide +kernel
theorem dX2_readClause_31 : decode cX2_readClause 31 = .ok (.aload_n 0, 1) := by decide +kernel
theorem dX2_readClause_32 : decode cX2_readClause 32 = .ok (.invokevirtual 57, 3) := by decide +kernel
theorem dX2_readClause_35 : decode cX2_readClause 35 = .ok (.goto 68, 3) := by decide +kernel
theorem dX2_readClause_38 : decode cX2_readClause 38 = .ok (.aload_n 0, 1) := by decide +kernel
theorem dX2_readClause_39 : decode cX2_readClause 39 = .ok (.getfield 25, 3) := by decide +kernel
theorem dX2_readClause_42 : decode cX2_readClause 42 = .ok (.ldc 60, 2) := by decide +kernel
theorem dX2_readClause_44 : decode cX2_readClause 44 = .ok (.invokevirtual 48, 3) := by decide +kernel
theorem dX2_readClause_47 : decode cX2_readClause 47 = .ok (.ifCond .eq 10, 3) := by decide +kernel
theorem dX2_readClause_50 : decode cX2_readClause 50 = .ok (.aload_n 0, 1) := by decide +kernel
theorem dX2_readClause_51 : decode cX2_readClause 51 = .ok (.invokevirtual 62, 3) := by decide +kernel
theorem dX2_readClause_54 : decode cX2_readClause 54 = .ok (.goto 49, 3) := by decide +kernel
theorem dX2_readClause_57 : decode cX2_readClause 57 = .ok (.aload_n 0, 1) := by decide +kernel
theorem dX2_readClause_58 : decode cX2_readClause 58 = .ok (.getfield 25, 3) := by decide +kernel
theorem dX2_readClause_61 : decode cX2_readClause 61 = .ok (.ldc 65, 2) := by decide +kernel
theorem dX2_readClause_63 : decode cX2_readClause 63 = .ok (.invokevirtual 67, 3) := by decide +kernel
theorem dX2_readClause_66 : decode cX2_readClause 66 = .ok (.ifCond .eq 10, 3) := by decide +kernel
theorem dX2_readClause_69 : decode cX2_readClause 69 = .ok (.aload_n 0, 1) := by decide +kernel
theorem dX2_readClause_70 : decode cX2_readClause 70 = .ok (.invokevirtual 70, 3) := by decide +kernel
theorem dX2_readClause_73 : decode cX2_readClause 73 = .ok (.goto 30, 3) := by decide +kernel
theorem dX2_readClause_76 : decode cX2_readClause 76 = .ok (.aload_n 0, 1) := by decide +kernel
theorem dX2_readClause_77 : decode cX2_readClause 77 = .ok (.getfield 25, 3) := by decide +kernel
theorem dX2_readClause_80 : decode cX2_readClause 80 = .ok (.ldc 73, 2) := by decide +kernel
theorem dX2_readClause_82 : decode cX2_readClause 82 = .ok (.invokevirtual 67, 3) := by decide +kernel
theorem dX2_readClause_85 : decode cX2_readClause 85 = .ok (.ifCond .eq 10, 3) := by decide +kernel
theorem dX2_readClause_88 : decode cX2_readClause 88 = .ok (.aload_n 0, 1) := by decide +kernel
theorem dX2_readClause_89 : decode cX2_readClause 89 = .ok (.invokevirtual 75, 3) := by decide +kernel
theorem dX2_readClause_92 : decode cX2_readClause 92 = .ok (.goto 11, 3) := by decide +kernel
theorem dX2_readClause_95 : decode cX2_readClause 95 = .ok (.aload_n 0, 1) := by decide +kernel
theorem dX2_readClause_96 : decode cX2_readClause 96 = .ok (.getfield 25, 3) := by decide +kernel
theorem dX2_readClause_99 : decode cX2_readClause 99 = .ok (.iconst 1, 1) := by decide +kernel
theorem dX2_readClause_100 : decode cX2_readClause 100 = .ok (.invokevirtual 78, 3) := by decide +kernel
theorem dX2_readClause_103 : decode cX2_readClause 103 = .ok (.return_, 1) := by decide +kernel
theorem dX2_readHouse_0 : decode cX2_readHouse 0 = .ok (.aload_n 0, 1) := by decide +kernel
theorem dX2_readHouse_1 : decode cX2_readHouse 1 = .ok (.getfield 12, 3) := by decide +kernel
theorem dX2_readHouse_4 : decode cX2_readHouse 4 = .ok (.getfield 81, 3) := by decide +kernel
theorem dX2_readHouse_7 : decode cX2_readHouse 7 = .ok (.istore_n 1, 1) := by decide +kernel
theorem dX2_readHouse_8 : decode cX2_readHouse 8 = .ok (.iload_n 1, 1) := by decide +kernel
theorem dX2_readHouse_9 : decode cX2_readHouse 9 = .ok (.iconst 4, 1) := by decide +kernel
theorem dX2_readHouse_10 : decode cX2_readHouse 10 = .ok (.if_icmp .lt 12, 3) := by decide +kernel
theorem dX2_readHouse_13 : decode cX2_readHouse 13 = .ok (.aload_n 0, 1) := by decide +kernel
theorem dX2_readHouse_14 : decode cX2_readHouse 14 = .ok (.getfield 25, 3) := by decide +kernel
theorem dX2_readHouse_17 : decode cX2_readHouse 17 = .ok (.iconst 3, 1) := by decide +kernel
theorem dX2_readHouse_18 : decode cX2_readHouse 18 = .ok (.invokevirtual 78, 3) := by decide +kernel
theorem dX2_readHouse_21 : decode cX2_readHouse 21 = .ok (.return_, 1) := by decide +kernel
theorem dX2_readHouse_22 : decode cX2_readHouse 22 = .ok (.aload_n 0, 1) := by decide +kernel
theorem dX2_readHouse_23 : decode cX2_readHouse 23 = .ok (.getfield 25, 3) := by decide +kernel
theorem dX2_readHouse_26 : decode cX2_readHouse 26 = .ok (.invokevirtual 84, 3) := by decide +kernel
theorem dX2_readHouse_29 : decode cX2_readHouse 29 = .ok (.aload_n 0, 1) := by decide +kernel
theorem dX2_readHouse_30 : decode cX2_readHouse 30 = .ok (.getfield 12, 3) := by decide +kernel
theorem dX2_readHouse_33 : decode cX2_readHouse 33 = .ok (.getfield 87, 3) := by decide +kernel
theorem dX2_readHouse_36 : decode cX2_readHouse 36 = .ok (.iload_n 1, 1) := by decide +kernel
theorem dX2_readHouse_37 : decode cX2_readHouse 37 = .ok (.aload_n 0, 1) := by decide +kernel
theorem dX2_readHouse_38 : decode cX2_readHouse 38 = .ok (.getfield 25, 3) := by decide +kernel
theorem dX2_readHouse_41 : decode cX2_readHouse 41 = .ok (.iconst 1, 1) := by decide +kernel
theorem dX2_readHouse_42 : decode cX2_readHouse 42 = .ok (.bipush 99, 2) := by decide +kernel
theorem dX2_readHouse_44 : decode cX2_readHouse 44 = .ok (.invokevirtual 91, 3) := by decide +kernel
theorem dX2_readHouse_47 : decode cX2_readHouse 47 = .ok (.iastore, 1) := by decide +kernel
theorem dX2_readHouse_48 : decode cX2_readHouse 48 = .ok (.aload_n 0, 1) := by decide +kernel
theorem dX2_readHouse_49 : decode cX2_readHouse 49 = .ok (.getfield 12, 3) := by decide +kernel
theorem dX2_readHouse_52 : decode cX2_readHouse 52 = .ok (.getfield 95, 3) := by decide +kernel
theorem dX2_readHouse_55 : decode cX2_readHouse 55 = .ok (.iload_n 1, 1) := by decide +kernel
theorem dX2_readHouse_56 : decode cX2_readHouse 56 = .ok (.iconst 0, 1) := by decide +kernel
theorem dX2_readHouse_57 : decode cX2_readHouse 57 = .ok (.iastore, 1) := by decide +kernel
theorem dX2_readHouse_58 : decode cX2_readHouse 58 = .ok (.aload_n 0, 1) := by decide +kernel
theorem dX2_readHouse_59 : decode cX2_readHouse 59 = .ok (.getfield 21, 3) := by decide +kernel
theorem dX2_readHouse_62 : decode cX2_readHouse 62 = .ok (.getfield 98, 3) := by decide +kernel
theorem dX2_readHouse_65 : decode cX2_readHouse 65 = .ok (.iload_n 1, 1) := by decide +kernel
theorem dX2_readHouse_66 : decode cX2_readHouse 66 = .ok (.aload_n 0, 1) := by decide +kernel
theorem dX2_readHouse_67 : decode cX2_readHouse 67 = .ok (.getfield 25, 3) := by decide +kernel
theorem dX2_readHouse_70 : decode cX2_readHouse 70 = .ok (.iconst 1, 1) := by decide +kernel
theorem dX2_readHouse_71 : decode cX2_readHouse 71 = .ok (.bipush 100, 2) := by decide +kernel
theorem dX2_readHouse_73 : decode cX2_readHouse 73 = .ok (.invokevirtual 91, 3) := by decide +kernel
theorem dX2_readHouse_76 : decode cX2_readHouse 76 = .ok (.iastore, 1) := by decide +kernel
theorem dX2_readHouse_77 : decode cX2_readHouse 77 = .ok (.aload_n 0, 1) := by decide +kernel
theorem dX2_readHouse_78 : decode cX2_readHouse 78 = .ok (.getfield 25, 3) := by decide +kernel
theorem dX2_readHouse_81 : decode cX2_readHouse 81 = .ok (.bipush 59, 2) := by decide +kernel
theorem dX2_readHouse_83 : decode cX2_readHouse 83 = .ok (.invokevirtual 101, 3) := by decide +kernel
theorem dX2_readHouse_86 : decode cX2_readHouse 86 = .ok (.aload_n 0, 1) := by decide +kernel
theorem dX2_readHouse_87 : decode cX2_readHouse 87 = .ok (.getfield 12, 3) := by decide +kernel
theorem dX2_readHouse_90 : decode cX2_readHouse 90 = .ok (.dup, 1) := by decide +kernel
theorem dX2_readHouse_91 : decode cX2_readHouse 91 = .ok (.getfield 81, 3) := by decide +kernel
theorem dX2_readHouse_94 : decode cX2_readHouse 94 = .ok (.iconst 1, 1) := by decide +kernel
theorem dX2_readHouse_95 : decode cX2_readHouse 95 = .ok (.iadd, 1) := by decide +kernel
theorem dX2_readHouse_96 : decode cX2_readHouse 96 = .ok (.putfield 81, 3) := by decide +kernel
theorem dX2_readHouse_99 : decode cX2_readHouse 99 = .ok (.return_, 1) := by decide +kernel
theorem dX2_readScreen_0 : decode cX2_readScreen 0 = .ok (.aload_n 0, 1) := by decide +kernel
theorem dX2_readScreen_1 : decode cX2_readScreen 1 = .ok (.getfield 12, 3) := by decide +kernel
theorem dX2_readScreen_4 : decode cX2_readScreen 4 = .ok (.getfield 105, 3) := by decide +kernel
theorem dX2_readScreen_7 : decode cX2_readScreen 7 = .ok (.istore_n 1, 1) := by decide +kernel
theorem dX2_readScreen_8 : decode cX2_readScreen 8 = .ok (.iload_n 1, 1) := by decide +kernel
theorem dX2_readScreen_9 : decode cX2_readScreen 9 = .ok (.bipush 10, 2) := by decide +kernel
theorem dX2_readScreen_11 : decode cX2_readScreen 11 = .ok (.if_icmp .lt 12, 3) := by decide +kernel
theorem dX2_readScreen_14 : decode cX2_readScreen 14 = .ok (.aload_n 0, 1) := by decide +kernel
theorem dX2_readScreen_15 : decode cX2_readScreen 15 = .ok (.getfield 25, 3) := by decide +kernel
theorem dX2_readScreen_18 : decode cX2_readScreen 18 = .ok (.iconst 3, 1) := by decide +kernel
theorem dX2_readScreen_19 : decode cX2_readScreen 19 = .ok (.invokevirtual 78, 3) := by decide +kernel
theorem dX2_readScreen_22 : decode cX2_readScreen 22 = .ok (.return_, 1) := by decide +kernel
theorem dX2_readScreen_23 : decode cX2_readScreen 23 = .ok (.aload_n 0, 1) := by decide +kernel
theorem dX2_readScreen_24 : decode cX2_readScreen 24 = .ok (.getfield 25, 3) := by decide +kernel
theorem dX2_readScreen_27 : decode cX2_readScreen 27 = .ok (.invokevirtual 84, 3) := by decide +kernel
theorem dX2_readScreen_30 : decode cX2_readScreen 30 = .ok (.aload_n 0, 1) := by decide +kernel
theorem dX2_readScreen_31 : decode cX2_readScreen 31 = .ok (.invokevirtual 108, 3) := by decide +kernel
theorem dX2_readScreen_34 : decode cX2_readScreen 34 = .ok (.aload_n 0, 1) := by decide +kernel
theorem dX2_readScreen_35 : decode cX2_readScreen 35 = .ok (.getfield 25, 3) := by decide +kernel
theorem dX2_readScreen_38 : decode cX2_readScreen 38 = .ok (.iconst 0, 1) := by decide +kernel
theorem dX2_readScreen_39 : decode cX2_readScreen 39 = .ok (.aload_n 0, 1) := by decide +kernel
theorem dX2_readScreen_40 : decode cX2_readScreen 40 = .ok (.getfield 12, 3) := by decide +kernel
theorem dX2_readScreen_43 : decode cX2_readScreen 43 = .ok (.getfield 81, 3) := by decide +kernel
theorem dX2_readScreen_46 : decode cX2_readScreen 46 = .ok (.iconst 1, 1) := by decide +kernel
theorem dX2_readScreen_47 : decode cX2_readScreen 47 = .ok (.isub, 1) := by decide +kernel
theorem dX2_readScreen_48 : decode cX2_readScreen 48 = .ok (.invokevirtual 91, 3) := by decide +kernel
theorem dX2_readScreen_51 : decode cX2_readScreen 51 = .ok (.istore_n 2, 1) := by decide +kernel
theorem dX2_readScreen_52 : decode cX2_readScreen 52 = .ok (.aload_n 0, 1) := by decide +kernel
theorem dX2_readScreen_53 : decode cX2_readScreen 53 = .ok (.getfield 12, 3) := by decide +kernel
theorem dX2_readScreen_56 : decode cX2_readScreen 56 = .ok (.getfield 111, 3) := by decide +kernel
theorem dX2_readScreen_59 : decode cX2_readScreen 59 = .ok (.iload_n 1, 1) := by decide +kernel
theorem dX2_readScreen_60 : decode cX2_readScreen 60 = .ok (.iload_n 2, 1) := by decide +kernel
theorem dX2_readScreen_61 : decode cX2_readScreen 61 = .ok (.iastore, 1) := by decide +kernel
theorem dX2_readScreen_62 : decode cX2_readScreen 62 = .ok (.aload_n 0, 1) := by decide +kernel
theorem dX2_readScreen_63 : decode cX2_readScreen 63 = .ok (.getfield 12, 3) := by decide +kernel
theorem dX2_readScreen_66 : decode cX2_readScreen 66 = .ok (.getfield 114, 3) := by decide +kernel
theorem dX2_readScreen_69 : decode cX2_readScreen 69 = .ok (.iload_n 1, 1) := by decide +kernel
theorem dX2_readScreen_70 : decode cX2_readScreen 70 = .ok (.aload_n 0, 1) := by decide +kernel
theorem dX2_readScreen_71 : decode cX2_readScreen 71 = .ok (.getfield 25, 3) := by decide +kernel
theorem dX2_readScreen_74 : decode cX2_readScreen 74 = .ok (.iconst 1, 1) := by decide +kernel
theorem dX2_readScreen_75 : decode cX2_readScreen 75 = .ok (.sipush 500, 3) := by decide +kernel
theorem dX2_readScreen_78 : decode cX2_readScreen 78 = .ok (.invokevirtual 91, 3) := by decide +kernel
theorem dX2_readScreen_81 : decode cX2_readScreen 81 = .ok (.iastore, 1) := by decide +kernel
theorem dX2_readScreen_82 : decode cX2_readScreen 82 = .ok (.aload_n 0, 1) := by decide +kernel
theorem dX2_readScreen_83 : decode cX2_readScreen 83 = .ok (.getfield 12, 3) := by decide +kernel
theorem dX2_readScreen_86 : decode cX2_readScreen 86 = .ok (.getfield 117, 3) := by decide +kernel
theorem dX2_readScreen_89 : decode cX2_readScreen 89 = .ok (.iload_n 1, 1) := by decide +kernel
theorem dX2_readScreen_90 : decode cX2_readScreen 90 = .ok (.aload_n 0, 1) := by decide +kernel
theorem dX2_readScreen_91 : decode cX2_readScreen 91 = .ok (.getfield 25, 3) := by decide +kernel
theorem dX2_readScreen_94 : decode cX2_readScreen 94 = .ok (.iconst 1, 1) := by decide +kernel
theorem dX2_readScreen_95 : decode cX2_readScreen 95 = .ok (.bipush 6, 2) := by decide +kernel
theorem dX2_readScreen_97 : decode cX2_readScreen 97 = .ok (.invokevirtual 91, 3) := by decide +kernel
theorem dX2_readScreen_100 : decode cX2_readScreen 100 = .ok (.iastore, 1) := by decide +kernel
theorem dX2_readScreen_101 : decode cX2_readScreen 101 = .ok (.aload_n 0, 1) := by decide +kernel
theorem dX2_readScreen_102 : decode cX2_readScreen 102 = .ok (.getfield 21, 3) := by decide +kernel
theorem dX2_readScreen_105 : decode cX2_readScreen 105 = .ok (.getfield 120, 3) := by decide +kernel
theorem dX2_readScreen_108 : decode cX2_readScreen 108 = .ok (.iload_n 1, 1) := by decide +kernel
theorem dX2_readScreen_109 : decode cX2_readScreen 109 = .ok (.aload_n 0, 1) := by decide +kernel
theorem dX2_readScreen_110 : decode cX2_readScreen 110 = .ok (.getfield 25, 3) := by decide +kernel
theorem dX2_readScreen_113 : decode cX2_readScreen 113 = .ok (.iconst 0, 1) := by decide +kernel
theorem dX2_readScreen_114 : decode cX2_readScreen 114 = .ok (.sipush 9999, 3) := by decide +kernel
theorem dX2_readScreen_117 : decode cX2_readScreen 117 = .ok (.invokevirtual 91, 3) := by decide +kernel
theorem dX2_readScreen_120 : decode cX2_readScreen 120 = .ok (.iastore, 1) := by decide +kernel
theorem dX2_readScreen_121 : decode cX2_readScreen 121 = .ok (.aload_n 0, 1) := by decide +kernel
theorem dX2_readScreen_122 : decode cX2_readScreen 122 = .ok (.getfield 25, 3) := by decide +kernel
theorem dX2_readScreen_125 : decode cX2_readScreen 125 = .ok (.bipush 59, 2) := by decide +kernel
theorem dX2_readScreen_127 : decode cX2_readScreen 127 = .ok (.invokevirtual 101, 3) := by decide +kernel
theorem dX2_readScreen_130 : decode cX2_readScreen 130 = .ok (.aload_n 0, 1) := by decide +kernel
theorem dX2_readScreen_131 : decode cX2_readScreen 131 = .ok (.getfield 12, 3) := by decide +kernel
theorem dX2_readScreen_134 : decode cX2_readScreen 134 = .ok (.getfield 95, 3) := by decide +kernel
theorem dX2_readScreen_137 : decode cX2_readScreen 137 = .ok (.iload_n 2, 1) := by decide +kernel
theorem dX2_readScreen_138 : decode cX2_readScreen 138 = .ok (.dup2, 1) := by decide +kernel
theorem dX2_readScreen_139 : decode cX2_readScreen 139 = .ok (.iaload, 1) := by decide +kernel
theorem dX2_readScreen_140 : decode cX2_readScreen 140 = .ok (.iconst 1, 1) := by decide +kernel
theorem dX2_readScreen_141 : decode cX2_readScreen 141 = .ok (.iadd, 1) := by decide +kernel
theorem dX2_readScreen_142 : decode cX2_readScreen 142 = .ok (.iastore, 1) := by decide +kernel
theorem dX2_readScreen_143 : decode cX2_readScreen 143 = .ok (.aload_n 0, 1) := by decide +kernel
theorem dX2_readScreen_144 : decode cX2_readScreen 144 = .ok (.getfield 12, 3) := by decide +kernel
theorem dX2_readScreen_147 : decode cX2_readScreen 147 = .ok (.dup, 1) := by decide +kernel
theorem dX2_readScreen_148 : decode cX2_readScreen 148 = .ok (.getfield 105, 3) := by decide +kernel
theorem dX2_readScreen_151 : decode cX2_readScreen 151 = .ok (.iconst 1, 1) := by decide +kernel
theorem dX2_readScreen_152 : decode cX2_readScreen 152 = .ok (.iadd, 1) := by decide +kernel
theorem dX2_readScreen_153 : decode cX2_readScreen 153 = .ok (.putfield 105, 3) := by decide +kernel
theorem dX2_readScreen_156 : decode cX2_readScreen 156 = .ok (.return_, 1) := by decide +kernel
theorem dX2_refuseFullHouse_0 : decode cX2_refuseFullHouse 0 = .ok (.aload_n 0, 1) := by decide +kernel
theorem dX2_refuseFullHouse_1 : decode cX2_refuseFullHouse 1 = .ok (.getfield 25, 3) := by decide +kernel
theorem dX2_refuseFullHouse_4 : decode cX2_refuseFullHouse 4 = .ok (.getfield 39, 3) := by decide +kernel
theorem dX2_refuseFullHouse_7 : decode cX2_refuseFullHouse 7 = .ok (.iconst 2, 1) := by decide +kernel
theorem dX2_refuseFullHouse_8 : decode cX2_refuseFullHouse 8 = .ok (.if_icmp .ne 47, 3) := by decide +kernel
theorem dX2_refuseFullHouse_11 : decode cX2_refuseFullHouse 11 = .ok (.aload_n 0, 1) := by decide +kernel
theorem dX2_refuseFullHouse_12 : decode cX2_refuseFullHouse 12 = .ok (.getfield 25, 3) := by decide +kernel
theorem dX2_refuseFullHouse_15 : decode cX2_refuseFullHouse 15 = .ok (.getfield 123, 3) := by decide +kernel
theorem dX2_refuseFullHouse_18 : decode cX2_refuseFullHouse 18 = .ok (.aload_n 0, 1) := by decide +kernel
theorem dX2_refuseFullHouse_19 : decode cX2_refuseFullHouse 19 = .ok (.getfield 12, 3) := by decide +kernel
theorem dX2_refuseFullHouse_22 : decode cX2_refuseFullHouse 22 = .ok (.getfield 81, 3) := by decide +kernel
theorem dX2_refuseFullHouse_25 : decode cX2_refuseFullHouse 25 = .ok (.if_icmp .ge 30, 3) := by decide +kernel
theorem dX2_refuseFullHouse_28 : decode cX2_refuseFullHouse 28 = .ok (.aload_n 0, 1) := by decide +kernel
theorem dX2_refuseFullHouse_29 : decode cX2_refuseFullHouse 29 = .ok (.getfield 12, 3) := by decide +kernel
theorem dX2_refuseFullHouse_32 : decode cX2_refuseFullHouse 32 = .ok (.getfield 95, 3) := by decide +kernel
theorem dX2_refuseFullHouse_35 : decode cX2_refuseFullHouse 35 = .ok (.aload_n 0, 1) := by decide +kernel
theorem dX2_refuseFullHouse_36 : decode cX2_refuseFullHouse 36 = .ok (.getfield 25, 3) := by decide +kernel
theorem dX2_refuseFullHouse_39 : decode cX2_refuseFullHouse 39 = .ok (.getfield 123, 3) := by decide +kernel
theorem dX2_refuseFullHouse_42 : decode cX2_refuseFullHouse 42 = .ok (.iaload, 1) := by decide +kernel
theorem dX2_refuseFullHouse_43 : decode cX2_refuseFullHouse 43 = .ok (.iconst 4, 1) := by decide +kernel
theorem dX2_refuseFullHouse_44 : decode cX2_refuseFullHouse 44 = .ok (.if_icmp .lt 11, 3) := by decide +kernel
theorem dX2_refuseFullHouse_47 : decode cX2_refuseFullHouse 47 = .ok (.aload_n 0, 1) := by decide +kernel
theorem dX2_refuseFullHouse_48 : decode cX2_refuseFullHouse 48 = .ok (.getfield 25, 3) := by decide +kernel
theorem dX2_refuseFullHouse_51 : decode cX2_refuseFullHouse 51 = .ok (.iconst 4, 1) := by decide +kernel
theorem dX2_refuseFullHouse_52 : decode cX2_refuseFullHouse 52 = .ok (.invokevirtual 78, 3) := by decide +kernel
theorem dX2_refuseFullHouse_55 : decode cX2_refuseFullHouse 55 = .ok (.return_, 1) := by decide +kernel
theorem dX2_readFilm_0 : decode cX2_readFilm 0 = .ok (.aload_n 0, 1) := by decide +kernel
theorem dX2_readFilm_1 : decode cX2_readFilm 1 = .ok (.getfield 12, 3) := by decide +kernel
theorem dX2_readFilm_4 : decode cX2_readFilm 4 = .ok (.getfield 126, 3) := by decide +kernel
theorem dX2_readFilm_7 : decode cX2_readFilm 7 = .ok (.istore_n 1, 1) := by decide +kernel
theorem dX2_readFilm_8 : decode cX2_readFilm 8 = .ok (.iload_n 1, 1) := by decide +kernel
theorem dX2_readFilm_9 : decode cX2_readFilm 9 = .ok (.bipush 6, 2) := by decide +kernel
theorem dX2_readFilm_11 : decode cX2_readFilm 11 = .ok (.if_icmp .lt 12, 3) := by decide +kernel
theorem dX2_readFilm_14 : decode cX2_readFilm 14 = .ok (.aload_n 0, 1) := by decide +kernel
theorem dX2_readFilm_15 : decode cX2_readFilm 15 = .ok (.getfield 25, 3) := by decide +kernel
theorem dX2_readFilm_18 : decode cX2_readFilm 18 = .ok (.iconst 3, 1) := by decide +kernel
theorem dX2_readFilm_19 : decode cX2_readFilm 19 = .ok (.invokevirtual 78, 3) := by decide +kernel
theorem dX2_readFilm_22 : decode cX2_readFilm 22 = .ok (.return_, 1) := by decide +kernel
theorem dX2_readFilm_23 : decode cX2_readFilm 23 = .ok (.aload_n 0, 1) := by decide +kernel
theorem dX2_readFilm_24 : decode cX2_readFilm 24 = .ok (.getfield 25, 3) := by decide +kernel
theorem dX2_readFilm_27 : decode cX2_readFilm 27 = .ok (.invokevirtual 84, 3) := by decide +kernel
theorem dX2_readFilm_30 : decode cX2_readFilm 30 = .ok (.aload_n 0, 1) := by decide +kernel
theorem dX2_readFilm_31 : decode cX2_readFilm 31 = .ok (.getfield 12, 3) := by decide +kernel
theorem dX2_readFilm_34 : decode cX2_readFilm 34 = .ok (.getfield 129, 3) := by decide +kernel
theorem dX2_readFilm_37 : decode cX2_readFilm 37 = .ok (.iload_n 1, 1) := by decide +kernel
theorem dX2_readFilm_38 : decode cX2_readFilm 38 = .ok (.aload_n 0, 1) := by decide +kernel
theorem dX2_readFilm_39 : decode cX2_readFilm 39 = .ok (.getfield 25, 3) := by decide +kernel
theorem dX2_readFilm_42 : decode cX2_readFilm 42 = .ok (.iconst 0, 1) := by decide +kernel
theorem dX2_readFilm_43 : decode cX2_readFilm 43 = .ok (.sipush 9999, 3) := by decide +kernel
theorem dX2_readFilm_46 : decode cX2_readFilm 46 = .ok (.invokevirtual 91, 3) := by decide +kernel
theorem dX2_readFilm_49 : decode cX2_readFilm 49 = .ok (.iastore, 1) := by decide +kernel
theorem dX2_readFilm_50 : decode cX2_readFilm 50 = .ok (.aload_n 0, 1) := by decide +kernel
theorem dX2_readFilm_51 : decode cX2_readFilm 51 = .ok (.getfield 12, 3) := by decide +kernel
theorem dX2_readFilm_54 : decode cX2_readFilm 54 = .ok (.getfield 132, 3) := by decide +kernel
theorem dX2_readFilm_57 : decode cX2_readFilm 57 = .ok (.iload_n 1, 1) := by decide +kernel
theorem dX2_readFilm_58 : decode cX2_readFilm 58 = .ok (.aload_n 0, 1) := by decide +kernel
theorem dX2_readFilm_59 : decode cX2_readFilm 59 = .ok (.getfield 25, 3) := by decide +kernel
theorem dX2_readFilm_62 : decode cX2_readFilm 62 = .ok (.iconst 0, 1) := by decide +kernel
theorem dX2_readFilm_63 : decode cX2_readFilm 63 = .ok (.bipush 100, 2) := by decide +kernel
theorem dX2_readFilm_65 : decode cX2_readFilm 65 = .ok (.invokevirtual 91, 3) := by decide +kernel
theorem dX2_readFilm_68 : decode cX2_readFilm 68 = .ok (.iastore, 1) := by decide +kernel
theorem dX2_readFilm_69 : decode cX2_readFilm 69 = .ok (.aload_n 0, 1) := by decide +kernel
theorem dX2_readFilm_70 : decode cX2_readFilm 70 = .ok (.getfield 12, 3) := by decide +kernel
theorem dX2_readFilm_73 : decode cX2_readFilm 73 = .ok (.getfield 135, 3) := by decide +kernel
theorem dX2_readFilm_76 : decode cX2_readFilm 76 = .ok (.iload_n 1, 1) := by decide +kernel
theorem dX2_readFilm_77 : decode cX2_readFilm 77 = .ok (.aload_n 0, 1) := by decide +kernel
theorem dX2_readFilm_78 : decode cX2_readFilm 78 = .ok (.getfield 25, 3) := by decide +kernel
theorem dX2_readFilm_81 : decode cX2_readFilm 81 = .ok (.iconst 0, 1) := by decide +kernel
theorem dX2_readFilm_82 : decode cX2_readFilm 82 = .ok (.sipush 9999, 3) := by decide +kernel
theorem dX2_readFilm_85 : decode cX2_readFilm 85 = .ok (.invokevirtual 91, 3) := by decide +kernel
theorem dX2_readFilm_88 : decode cX2_readFilm 88 = .ok (.iastore, 1) := by decide +kernel
theorem dX2_readFilm_89 : decode cX2_readFilm 89 = .ok (.aload_n 0, 1) := by decide +kernel
theorem dX2_readFilm_90 : decode cX2_readFilm 90 = .ok (.iload_n 1, 1) := by decide +kernel
theorem dX2_readFilm_91 : decode cX2_readFilm 91 = .ok (.invokevirtual 138, 3) := by decide +kernel
theorem dX2_readFilm_94 : decode cX2_readFilm 94 = .ok (.aload_n 0, 1) := by decide +kernel
theorem dX2_readFilm_95 : decode cX2_readFilm 95 = .ok (.getfield 25, 3) := by decide +kernel
theorem dX2_readFilm_98 : decode cX2_readFilm 98 = .ok (.bipush 59, 2) := by decide +kernel
theorem dX2_readFilm_100 : decode cX2_readFilm 100 = .ok (.invokevirtual 101, 3) := by decide +kernel
theorem dX2_readFilm_103 : decode cX2_readFilm 103 = .ok (.aload_n 0, 1) := by decide +kernel
theorem dX2_readFilm_104 : decode cX2_readFilm 104 = .ok (.getfield 21, 3) := by decide +kernel
theorem dX2_readFilm_107 : decode cX2_readFilm 107 = .ok (.getfield 141, 3) := by decide +kernel
theorem dX2_readFilm_110 : decode cX2_readFilm 110 = .ok (.iload_n 1, 1) := by decide +kernel
theorem dX2_readFilm_111 : decode cX2_readFilm 111 = .ok (.aload_n 0, 1) := by decide +kernel
theorem dX2_readFilm_112 : decode cX2_readFilm 112 = .ok (.getfield 12, 3) := by decide +kernel
theorem dX2_readFilm_115 : decode cX2_readFilm 115 = .ok (.getfield 129, 3) := by decide +kernel
theorem dX2_readFilm_118 : decode cX2_readFilm 118 = .ok (.iload_n 1, 1) := by decide +kernel
theorem dX2_readFilm_119 : decode cX2_readFilm 119 = .ok (.iaload, 1) := by decide +kernel
theorem dX2_readFilm_120 : decode cX2_readFilm 120 = .ok (.iastore, 1) := by decide +kernel
theorem dX2_readFilm_121 : decode cX2_readFilm 121 = .ok (.aload_n 0, 1) := by decide +kernel
theorem dX2_readFilm_122 : decode cX2_readFilm 122 = .ok (.getfield 12, 3) := by decide +kernel
theorem dX2_readFilm_125 : decode cX2_readFilm 125 = .ok (.dup, 1) := by decide +kernel
theorem dX2_readFilm_126 : decode cX2_readFilm 126 = .ok (.getfield 126, 3) := by decide +kernel
theorem dX2_readFilm_129 : decode cX2_readFilm 129 = .ok (.iconst 1, 1) := by decide +kernel
theorem dX2_readFilm_130 : decode cX2_readFilm 130 = .ok (.iadd, 1) := by decide +kernel
theorem dX2_readFilm_131 : decode cX2_readFilm 131 = .ok (.putfield 126, 3) := by decide +kernel
theorem dX2_readFilm_134 : decode cX2_readFilm 134 = .ok (.return_, 1) := by decide +kernel
theorem dX2_readTerms_0 : decode cX2_readTerms 0 = .ok (.aload_n 0, 1) := by decide +kernel
theorem dX2_readTerms_1 : decode cX2_readTerms 1 = .ok (.getfield 12, 3) := by decide +kernel
theorem dX2_readTerms_4 : decode cX2_readTerms 4 = .ok (.getfield 144, 3) := by decide +kernel
theorem dX2_readTerms_7 : decode cX2_readTerms 7 = .ok (.iload_n 1, 1) := by decide +kernel
theorem dX2_readTerms_8 : decode cX2_readTerms 8 = .ok (.iconst 4, 1) := by decide +kernel
theorem dX2_readTerms_9 : decode cX2_readTerms 9 = .ok (.imul, 1) := by decide +kernel
theorem dX2_readTerms_10 : decode cX2_readTerms 10 = .ok (.aload_n 0, 1) := by decide +kernel
theorem dX2_readTerms_11 : decode cX2_readTerms 11 = .ok (.getfield 25, 3) := by decide +kernel
theorem dX2_readTerms_14 : decode cX2_readTerms 14 = .ok (.iconst 0, 1) := by decide +kernel
theorem dX2_readTerms_15 : decode cX2_readTerms 15 = .ok (.bipush 90, 2) := by decide +kernel
theorem dX2_readTerms_17 : decode cX2_readTerms 17 = .ok (.invokevirtual 91, 3) := by decide +kernel
theorem dX2_readTerms_20 : decode cX2_readTerms 20 = .ok (.iastore, 1) := by decide +kernel
theorem dX2_readTerms_21 : decode cX2_readTerms 21 = .ok (.iconst 1, 1) := by decide +kernel
theorem dX2_readTerms_22 : decode cX2_readTerms 22 = .ok (.istore_n 2, 1) := by decide +kernel
theorem dX2_readTerms_23 : decode cX2_readTerms 23 = .ok (.iload_n 2, 1) := by decide +kernel
theorem dX2_readTerms_24 : decode cX2_readTerms 24 = .ok (.iconst 4, 1) := by decide +kernel
theorem dX2_readTerms_25 : decode cX2_readTerms 25 = .ok (.if_icmp .ge 43, 3) := by decide +kernel
theorem dX2_readTerms_28 : decode cX2_readTerms 28 = .ok (.aload_n 0, 1) := by decide +kernel
theorem dX2_readTerms_29 : decode cX2_readTerms 29 = .ok (.getfield 25, 3) := by decide +kernel
theorem dX2_readTerms_32 : decode cX2_readTerms 32 = .ok (.getfield 39, 3) := by decide +kernel
theorem dX2_readTerms_35 : decode cX2_readTerms 35 = .ok (.iconst 2, 1) := by decide +kernel
theorem dX2_readTerms_36 : decode cX2_readTerms 36 = .ok (.if_icmp .ne 32, 3) := by decide +kernel
theorem dX2_readTerms_39 : decode cX2_readTerms 39 = .ok (.aload_n 0, 1) := by decide +kernel
theorem dX2_readTerms_40 : decode cX2_readTerms 40 = .ok (.getfield 12, 3) := by decide +kernel
theorem dX2_readTerms_43 : decode cX2_readTerms 43 = .ok (.getfield 144, 3) := by decide +kernel
theorem dX2_readTerms_46 : decode cX2_readTerms 46 = .ok (.iload_n 1, 1) := by decide +kernel
theorem dX2_readTerms_47 : decode cX2_readTerms 47 = .ok (.iconst 4, 1) := by decide +kernel
theorem dX2_readTerms_48 : decode cX2_readTerms 48 = .ok (.imul, 1) := by decide +kernel
theorem dX2_readTerms_49 : decode cX2_readTerms 49 = .ok (.iload_n 2, 1) := by decide +kernel
theorem dX2_readTerms_50 : decode cX2_readTerms 50 = .ok (.iadd, 1) := by decide +kernel
theorem dX2_readTerms_51 : decode cX2_readTerms 51 = .ok (.aload_n 0, 1) := by decide +kernel
theorem dX2_readTerms_52 : decode cX2_readTerms 52 = .ok (.getfield 25, 3) := by decide +kernel
theorem dX2_readTerms_55 : decode cX2_readTerms 55 = .ok (.iconst 0, 1) := by decide +kernel
theorem dX2_readTerms_56 : decode cX2_readTerms 56 = .ok (.bipush 90, 2) := by decide +kernel
theorem dX2_readTerms_58 : decode cX2_readTerms 58 = .ok (.invokevirtual 91, 3) := by decide +kernel
theorem dX2_readTerms_61 : decode cX2_readTerms 61 = .ok (.iastore, 1) := by decide +kernel
theorem dX2_readTerms_62 : decode cX2_readTerms 62 = .ok (.iinc 2 1, 3) := by decide +kernel
theorem dX2_readTerms_65 : decode cX2_readTerms 65 = .ok (.goto (-42), 3) := by decide +kernel
theorem dX2_readTerms_68 : decode cX2_readTerms 68 = .ok (.aload_n 0, 1) := by decide +kernel
theorem dX2_readTerms_69 : decode cX2_readTerms 69 = .ok (.getfield 12, 3) := by decide +kernel
theorem dX2_readTerms_72 : decode cX2_readTerms 72 = .ok (.getfield 147, 3) := by decide +kernel
theorem dX2_readTerms_75 : decode cX2_readTerms 75 = .ok (.iload_n 1, 1) := by decide +kernel
theorem dX2_readTerms_76 : decode cX2_readTerms 76 = .ok (.iload_n 2, 1) := by decide +kernel
theorem dX2_readTerms_77 : decode cX2_readTerms 77 = .ok (.iastore, 1) := by decide +kernel
theorem dX2_readTerms_78 : decode cX2_readTerms 78 = .ok (.return_, 1) := by decide +kernel
theorem dX2_readPrints_0 : decode cX2_readPrints 0 = .ok (.aload_n 0, 1) := by decide +kernel
theorem dX2_readPrints_1 : decode cX2_readPrints 1 = .ok (.getfield 25, 3) := by decide +kernel
theorem dX2_readPrints_4 : decode cX2_readPrints 4 = .ok (.iconst 0, 1) := by decide +kernel
theorem dX2_readPrints_5 : decode cX2_readPrints 5 = .ok (.aload_n 0, 1) := by decide +kernel
theorem dX2_readPrints_6 : decode cX2_readPrints 6 = .ok (.getfield 12, 3) := by decide +kernel
theorem dX2_readPrints_9 : decode cX2_readPrints 9 = .ok (.getfield 126, 3) := by decide +kernel
theorem dX2_readPrints_12 : decode cX2_readPrints 12 = .ok (.iconst 1, 1) := by decide +kernel
theorem dX2_readPrints_13 : decode cX2_readPrints 13 = .ok (.isub, 1) := by decide +kernel
theorem dX2_readPrints_14 : decode cX2_readPrints 14 = .ok (.invokevirtual 91, 3) := by decide +kernel
theorem dX2_readPrints_17 : decode cX2_readPrints 17 = .ok (.istore_n 1, 1) := by decide +kernel
theorem dX2_readPrints_18 : decode cX2_readPrints 18 = .ok (.aload_n 0, 1) := by decide +kernel
theorem dX2_readPrints_19 : decode cX2_readPrints 19 = .ok (.getfield 25, 3) := by decide +kernel
theorem dX2_readPrints_22 : decode cX2_readPrints 22 = .ok (.ldc 150, 2) := by decide +kernel
theorem dX2_readPrints_24 : decode cX2_readPrints 24 = .ok (.invokevirtual 67, 3) := by decide +kernel
theorem dX2_readPrints_27 : decode cX2_readPrints 27 = .ok (.ifCond .eq 7, 3) := by decide +kernel
theorem dX2_readPrints_30 : decode cX2_readPrints 30 = .ok (.iconst (-1), 1) := by decide +kernel
theorem dX2_readPrints_31 : decode cX2_readPrints 31 = .ok (.goto 20, 3) := by decide +kernel
theorem dX2_readPrints_34 : decode cX2_readPrints 34 = .ok (.aload_n 0, 1) := by decide +kernel
theorem dX2_readPrints_35 : decode cX2_readPrints 35 = .ok (.getfield 25, 3) := by decide +kernel
theorem dX2_readPrints_38 : decode cX2_readPrints 38 = .ok (.iconst 0, 1) := by decide +kernel
theorem dX2_readPrints_39 : decode cX2_readPrints 39 = .ok (.aload_n 0, 1) := by decide +kernel
theorem dX2_readPrints_40 : decode cX2_readPrints 40 = .ok (.getfield 12, 3) := by decide +kernel
theorem dX2_readPrints_43 : decode cX2_readPrints 43 = .ok (.getfield 81, 3) := by decide +kernel
theorem dX2_readPrints_46 : decode cX2_readPrints 46 = .ok (.iconst 1, 1) := by decide +kernel
theorem dX2_readPrints_47 : decode cX2_readPrints 47 = .ok (.isub, 1) := by decide +kernel
theorem dX2_readPrints_48 : decode cX2_readPrints 48 = .ok (.invokevirtual 91, 3) := by decide +kernel
theorem dX2_readPrints_51 : decode cX2_readPrints 51 = .ok (.istore_n 2, 1) := by decide +kernel
theorem dX2_readPrints_52 : decode cX2_readPrints 52 = .ok (.aload_n 0, 1) := by decide +kernel
theorem dX2_readPrints_53 : decode cX2_readPrints 53 = .ok (.getfield 25, 3) := by decide +kernel
theorem dX2_readPrints_56 : decode cX2_readPrints 56 = .ok (.iconst 0, 1) := by decide +kernel
theorem dX2_readPrints_57 : decode cX2_readPrints 57 = .ok (.bipush 9, 2) := by decide +kernel
theorem dX2_readPrints_59 : decode cX2_readPrints 59 = .ok (.invokevirtual 91, 3) := by decide +kernel
theorem dX2_readPrints_62 : decode cX2_readPrints 62 = .ok (.istore_n 3, 1) := by decide +kernel
theorem dX2_readPrints_63 : decode cX2_readPrints 63 = .ok (.aload_n 0, 1) := by decide +kernel
theorem dX2_readPrints_64 : decode cX2_readPrints 64 = .ok (.getfield 25, 3) := by decide +kernel
theorem dX2_readPrints_67 : decode cX2_readPrints 67 = .ok (.bipush 59, 2) := by decide +kernel
theorem dX2_readPrints_69 : decode cX2_readPrints 69 = .ok (.invokevirtual 101, 3) := by decide +kernel
theorem dX2_readPrints_72 : decode cX2_readPrints 72 = .ok (.aload_n 0, 1) := by decide +kernel
theorem dX2_readPrints_73 : decode cX2_readPrints 73 = .ok (.getfield 21, 3) := by decide +kernel
theorem dX2_readPrints_76 : decode cX2_readPrints 76 = .ok (.iload_n 1, 1) := by decide +kernel
theorem dX2_readPrints_77 : decode cX2_readPrints 77 = .ok (.iload_n 2, 1) := by decide +kernel
theorem dX2_readPrints_78 : decode cX2_readPrints 78 = .ok (.iload_n 3, 1) := by decide +kernel
theorem dX2_readPrints_79 : decode cX2_readPrints 79 = .ok (.aload_n 0, 1) := by decide +kernel
theorem dX2_readPrints_80 : decode cX2_readPrints 80 = .ok (.getfield 21, 3) := by decide +kernel
theorem dX2_readPrints_83 : decode cX2_readPrints 83 = .ok (.iload_n 1, 1) := by decide +kernel
theorem dX2_readPrints_84 : decode cX2_readPrints 84 = .ok (.iload_n 2, 1) := by decide +kernel
theorem dX2_readPrints_85 : decode cX2_readPrints 85 = .ok (.invokevirtual 152, 3) := by decide +kernel
theorem dX2_readPrints_88 : decode cX2_readPrints 88 = .ok (.isub, 1) := by decide +kernel
theorem dX2_readPrints_89 : decode cX2_readPrints 89 = .ok (.invokevirtual 155, 3) := by decide +kernel
theorem dX2_readPrints_92 : decode cX2_readPrints 92 = .ok (.return_, 1) := by decide +kernel
theorem dX2_readFee_0 : decode cX2_readFee 0 = .ok (.aload_n 0, 1) := by decide +kernel
theorem dX2_readFee_1 : decode cX2_readFee 1 = .ok (.getfield 21, 3) := by decide +kernel
theorem dX2_readFee_4 : decode cX2_readFee 4 = .ok (.aload_n 0, 1) := by decide +kernel
theorem dX2_readFee_5 : decode cX2_readFee 5 = .ok (.getfield 25, 3) := by decide +kernel
theorem dX2_readFee_8 : decode cX2_readFee 8 = .ok (.iconst 0, 1) := by decide +kernel
theorem dX2_readFee_9 : decode cX2_readFee 9 = .ok (.sipush 999, 3) := by decide +kernel
theorem dX2_readFee_12 : decode cX2_readFee 12 = .ok (.invokevirtual 91, 3) := by decide +kernel
theorem dX2_readFee_15 : decode cX2_readFee 15 = .ok (.putfield 159, 3) := by decide +kernel
theorem dX2_readFee_18 : decode cX2_readFee 18 = .ok (.aload_n 0, 1) := by decide +kernel
theorem dX2_readFee_19 : decode cX2_readFee 19 = .ok (.getfield 25, 3) := by decide +kernel
theorem dX2_readFee_22 : decode cX2_readFee 22 = .ok (.bipush 59, 2) := by decide +kernel
theorem dX2_readFee_24 : decode cX2_readFee 24 = .ok (.invokevirtual 101, 3) := by decide +kernel
theorem dX2_readFee_27 : decode cX2_readFee 27 = .ok (.return_, 1) := by decide +kernel
theorem dX3_init_0 : decode cX3_init 0 = .ok (.aload_n 0, 1) := by decide +kernel
theorem dX3_init_1 : decode cX3_init 1 = .ok (.invokespecial 3, 3) := by decide +kernel
theorem dX3_init_4 : decode cX3_init 4 = .ok (.aload_n 0, 1) := by decide +kernel
theorem dX3_init_5 : decode cX3_init 5 = .ok (.bipush 10, 2) := by decide +kernel
theorem dX3_init_7 : decode cX3_init 7 = .ok (.newarray .int, 2) := by decide +kernel
theorem dX3_init_9 : decode cX3_init 9 = .ok (.putfield 9, 3) := by decide +kernel
theorem dX3_init_12 : decode cX3_init 12 = .ok (.aload_n 0, 1) := by decide +kernel
theorem dX3_init_13 : decode cX3_init 13 = .ok (.aload_n 1, 1) := by decide +kernel
theorem dX3_init_14 : decode cX3_init 14 = .ok (.putfield 15, 3) := by decide +kernel
theorem dX3_init_17 : decode cX3_init 17 = .ok (.aload_n 0, 1) := by decide +kernel
theorem dX3_init_18 : decode cX3_init 18 = .ok (.aload_n 2, 1) := by decide +kernel
theorem dX3_init_19 : decode cX3_init 19 = .ok (.putfield 19, 3) := by decide +kernel
theorem dX3_init_22 : decode cX3_init 22 = .ok (.aload_n 0, 1) := by decide +kernel
theorem dX3_init_23 : decode cX3_init 23 = .ok (.aload_n 3, 1) := by decide +kernel
theorem dX3_init_24 : decode cX3_init 24 = .ok (.putfield 23, 3) := by decide +kernel
theorem dX3_init_27 : decode cX3_init 27 = .ok (.return_, 1) := by decide +kernel
theorem dX3_closeWeek_0 : decode cX3_closeWeek 0 = .ok (.aload_n 0, 1) := by decide +kernel
theorem dX3_closeWeek_1 : decode cX3_closeWeek 1 = .ok (.getfield 23, 3) := by decide +kernel
theorem dX3_closeWeek_4 : decode cX3_closeWeek 4 = .ok (.invokevirtual 27, 3) := by decide +kernel
theorem dX3_closeWeek_7 : decode cX3_closeWeek 7 = .ok (.istore_n 1, 1) := by decide +kernel
theorem dX3_closeWeek_8 : decode cX3_closeWeek 8 = .ok (.aload_n 0, 1) := by decide +kernel
theorem dX3_closeWeek_9 : decode cX3_closeWeek 9 = .ok (.iload_n 1, 1) := by decide +kernel
theorem dX3_closeWeek_10 : decode cX3_closeWeek 10 = .ok (.invokevirtual 33, 3) := by decide +kernel
theorem dX3_closeWeek_13 : decode cX3_closeWeek 13 = .ok (.aload_n 0, 1) := by decide +kernel
theorem dX3_closeWeek_14 : decode cX3_closeWeek 14 = .ok (.invokevirtual 37, 3) := by decide +kernel
theorem dX3_closeWeek_17 : decode cX3_closeWeek 17 = .ok (.aload_n 0, 1) := by decide +kernel
theorem dX3_closeWeek_18 : decode cX3_closeWeek 18 = .ok (.invokevirtual 40, 3) := by decide +kernel
theorem dX3_closeWeek_21 : decode cX3_closeWeek 21 = .ok (.aload_n 0, 1) := by decide +kernel
theorem dX3_closeWeek_22 : decode cX3_closeWeek 22 = .ok (.invokevirtual 43, 3) := by decide +kernel
theorem dX3_closeWeek_25 : decode cX3_closeWeek 25 = .ok (.aload_n 0, 1) := by decide +kernel
theorem dX3_closeWeek_26 : decode cX3_closeWeek 26 = .ok (.getfield 19, 3) := by decide +kernel
theorem dX3_closeWeek_29 : decode cX3_closeWeek 29 = .ok (.aload_n 0, 1) := by decide +kernel
theorem dX3_closeWeek_30 : decode cX3_closeWeek 30 = .ok (.getfield 19, 3) := by decide +kernel
theorem dX3_closeWeek_33 : decode cX3_closeWeek 33 = .ok (.getfield 46, 3) := by decide +kernel
theorem dX3_closeWeek_36 : decode cX3_closeWeek 36 = .ok (.iconst 4, 1) := by decide +kernel
theorem dX3_closeWeek_37 : decode cX3_closeWeek 37 = .ok (.aload_n 0, 1) := by decide +kernel
theorem dX3_closeWeek_38 : decode cX3_closeWeek 38 = .ok (.getfield 19, 3) := by decide +kernel
theorem dX3_closeWeek_41 : decode cX3_closeWeek 41 = .ok (.aload_n 0, 1) := by decide +kernel
theorem dX3_closeWeek_42 : decode cX3_closeWeek 42 = .ok (.getfield 15, 3) := by decide +kernel
theorem dX3_closeWeek_45 : decode cX3_closeWeek 45 = .ok (.getfield 52, 3) := by decide +kernel
theorem dX3_closeWeek_48 : decode cX3_closeWeek 48 = .ok (.invokevirtual 57, 3) := by decide +kernel
theorem dX3_closeWeek_51 : decode cX3_closeWeek 51 = .ok (.invokevirtual 61, 3) := by decide +kernel
theorem dX3_closeWeek_54 : decode cX3_closeWeek 54 = .ok (.aload_n 0, 1) := by decide +kernel
theorem dX3_closeWeek_55 : decode cX3_closeWeek 55 = .ok (.getfield 19, 3) := by decide +kernel
theorem dX3_closeWeek_58 : decode cX3_closeWeek 58 = .ok (.iconst 0, 1) := by decide +kernel
theorem dX3_closeWeek_59 : decode cX3_closeWeek 59 = .ok (.putfield 65, 3) := by decide +kernel
theorem dX3_closeWeek_62 : decode cX3_closeWeek 62 = .ok (.aload_n 0, 1) := by decide +kernel
theorem dX3_closeWeek_63 : decode cX3_closeWeek 63 = .ok (.getfield 19, 3) := by decide +kernel
theorem dX3_closeWeek_66 : decode cX3_closeWeek 66 = .ok (.dup, 1) := by decide +kernel
theorem dX3_closeWeek_67 : decode cX3_closeWeek 67 = .ok (.getfield 46, 3) := by decide +kernel
theorem dX3_closeWeek_70 : decode cX3_closeWeek 70 = .ok (.iconst 1, 1) := by decide +kernel
theorem dX3_closeWeek_71 : decode cX3_closeWeek 71 = .ok (.iadd, 1) := by decide +kernel
theorem dX3_closeWeek_72 : decode cX3_closeWeek 72 = .ok (.putfield 46, 3) := by decide +kernel
theorem dX3_closeWeek_75 : decode cX3_closeWeek 75 = .ok (.aload_n 0, 1) := by decide +kernel
theorem dX3_closeWeek_76 : decode cX3_closeWeek 76 = .ok (.invokevirtual 68, 3) := by decide +kernel
theorem dX3_closeWeek_79 : decode cX3_closeWeek 79 = .ok (.iload_n 1, 1) := by decide +kernel
theorem dX3_closeWeek_80 : decode cX3_closeWeek 80 = .ok (.ireturn, 1) := by decide +kernel
theorem dX3_addAmounts_0 : decode cX3_addAmounts 0 = .ok (.iconst 0, 1) := by decide +kernel
theorem dX3_addAmounts_1 : decode cX3_addAmounts 1 = .ok (.istore_n 2, 1) := by decide +kernel
theorem dX3_addAmounts_2 : decode cX3_addAmounts 2 = .ok (.iconst 0, 1) := by decide +kernel
theorem dX3_addAmounts_3 : decode cX3_addAmounts 3 = .ok (.istore_n 3, 1) := by decide +kernel
theorem dX3_addAmounts_4 : decode cX3_addAmounts 4 = .ok (.iconst 0, 1) := by decide +kernel
theorem dX3_addAmounts_5 : decode cX3_addAmounts 5 = .ok (.istore 4, 2) := by decide +kernel
theorem dX3_addAmounts_7 : decode cX3_addAmounts 7 = .ok (.iload 4, 2) := by decide +kernel
theorem dX3_addAmounts_9 : decode cX3_addAmounts 9 = .ok (.aload_n 0, 1) := by decide +kernel
theorem dX3_addAmounts_10 : decode cX3_addAmounts 10 = .ok (.getfield 15, 3) := by decide +kernel
theorem dX3_addAmounts_13 : decode cX3_addAmounts 13 = .ok (.getfield 71, 3) := by decide +kernel
theorem dX3_addAmounts_16 : decode cX3_addAmounts 16 = .ok (.if_icmp .ge 33, 3) := by decide +kernel
theorem dX3_addAmounts_19 : decode cX3_addAmounts 19 = .ok (.iload_n 2, 1) := by decide +kernel
theorem dX3_addAmounts_20 : decode cX3_addAmounts 20 = .ok (.aload_n 0, 1) := by decide +kernel
theorem dX3_addAmounts_21 : decode cX3_addAmounts 21 = .ok (.getfield 23, 3) := by decide +kernel
theorem dX3_addAmounts_24 : decode cX3_addAmounts 24 = .ok (.iload 4, 2) := by decide +kernel
theorem dX3_addAmounts_26 : decode cX3_addAmounts 26 = .ok (.invokevirtual 74, 3) := by decide +kernel
theorem dX3_addAmounts_29 : decode cX3_addAmounts 29 = .ok (.iadd, 1) := by decide +kernel
theorem dX3_addAmounts_30 : decode cX3_addAmounts 30 = .ok (.istore_n 2, 1) := by decide +kernel
theorem dX3_addAmounts_31 : decode cX3_addAmounts 31 = .ok (.iload_n 3, 1) := by decide +kernel
theorem dX3_addAmounts_32 : decode cX3_addAmounts 32 = .ok (.aload_n 0, 1) := by decide +kernel
theorem dX3_addAmounts_33 : decode cX3_addAmounts 33 = .ok (.getfield 23, 3) := by decide +kernel
theorem dX3_addAmounts_36 : decode cX3_addAmounts 36 = .ok (.iload 4, 2) := by decide +kernel
theorem dX3_addAmounts_38 : decode cX3_addAmounts 38 = .ok (.invokevirtual 77, 3) := by decide +kernel
theorem dX3_addAmounts_41 : decode cX3_addAmounts 41 = .ok (.iadd, 1) := by decide +kernel
theorem dX3_addAmounts_42 : decode cX3_addAmounts 42 = .ok (.istore_n 3, 1) := by decide +kernel
theorem dX3_addAmounts_43 : decode cX3_addAmounts 43 = .ok (.iinc 4 1, 3) := by decide +kernel
theorem dX3_addAmounts_46 : decode cX3_addAmounts 46 = .ok (.goto (-39), 3) := by decide +kernel
theorem dX3_addAmounts_49 : decode cX3_addAmounts 49 = .ok (.aload_n 0, 1) := by decide +kernel
theorem dX3_addAmounts_50 : decode cX3_addAmounts 50 = .ok (.iconst 0, 1) := by decide +kernel
theorem dX3_addAmounts_51 : decode cX3_addAmounts 51 = .ok (.iload_n 1, 1) := by decide +kernel
theorem dX3_addAmounts_52 : decode cX3_addAmounts 52 = .ok (.invokevirtual 80, 3) := by decide +kernel
theorem dX3_addAmounts_55 : decode cX3_addAmounts 55 = .ok (.aload_n 0, 1) := by decide +kernel
theorem dX3_addAmounts_56 : decode cX3_addAmounts 56 = .ok (.iconst 1, 1) := by decide +kernel
theorem dX3_addAmounts_57 : decode cX3_addAmounts 57 = .ok (.iload_n 2, 1) := by decide +kernel
theorem dX3_addAmounts_58 : decode cX3_addAmounts 58 = .ok (.invokevirtual 80, 3) := by decide +kernel
theorem dX3_addAmounts_61 : decode cX3_addAmounts 61 = .ok (.aload_n 0, 1) := by decide +kernel
theorem dX3_addAmounts_62 : decode cX3_addAmounts 62 = .ok (.iconst 2, 1) := by decide +kernel
theorem dX3_addAmounts_63 : decode cX3_addAmounts 63 = .ok (.iload_n 3, 1) := by decide +kernel
theorem dX3_addAmounts_64 : decode cX3_addAmounts 64 = .ok (.invokevirtual 80, 3) := by decide +kernel
theorem dX3_addAmounts_67 : decode cX3_addAmounts 67 = .ok (.aload_n 0, 1) := by decide +kernel
theorem dX3_addAmounts_68 : decode cX3_addAmounts 68 = .ok (.iconst 3, 1) := by decide +kernel
theorem dX3_addAmounts_69 : decode cX3_addAmounts 69 = .ok (.aload_n 0, 1) := by decide +kernel
theorem dX3_addAmounts_70 : decode cX3_addAmounts 70 = .ok (.getfield 19, 3) := by decide +kernel
theorem dX3_addAmounts_73 : decode cX3_addAmounts 73 = .ok (.getfield 65, 3) := by decide +kernel
theorem dX3_addAmounts_76 : decode cX3_addAmounts 76 = .ok (.aload_n 0, 1) := by decide +kernel
theorem dX3_addAmounts_77 : decode cX3_addAmounts 77 = .ok (.getfield 19, 3) := by decide +kernel
theorem dX3_addAmounts_80 : decode cX3_addAmounts 80 = .ok (.getfield 84, 3) := by decide +kernel
theorem dX3_addAmounts_83 : decode cX3_addAmounts 83 = .ok (.imul, 1) := by decide +kernel
theorem dX3_addAmounts_84 : decode cX3_addAmounts 84 = .ok (.invokevirtual 80, 3) := by decide +kernel
theorem dX3_addAmounts_87 : decode cX3_addAmounts 87 = .ok (.return_, 1) := by decide +kernel
theorem dX3_addAmount_0 : decode cX3_addAmount 0 = .ok (.aload_n 0, 1) := by decide +kernel
theorem dX3_addAmount_1 : decode cX3_addAmount 1 = .ok (.getfield 19, 3) := by decide +kernel
theorem dX3_addAmount_4 : decode cX3_addAmount 4 = .ok (.getfield 87, 3) := by decide +kernel
theorem dX3_addAmount_7 : decode cX3_addAmount 7 = .ok (.iload_n 1, 1) := by decide +kernel
theorem dX3_addAmount_8 : decode cX3_addAmount 8 = .ok (.dup2, 1) := by decide +kernel
theorem dX3_addAmount_9 : decode cX3_addAmount 9 = .ok (.iaload, 1) := by decide +kernel
theorem dX3_addAmount_10 : decode cX3_addAmount 10 = .ok (.iload_n 2, 1) := by decide +kernel
theorem dX3_addAmount_11 : decode cX3_addAmount 11 = .ok (.iadd, 1) := by decide +kernel
theorem dX3_addAmount_12 : decode cX3_addAmount 12 = .ok (.iastore, 1) := by decide +kernel
theorem dX3_addAmount_13 : decode cX3_addAmount 13 = .ok (.aload_n 0, 1) := by decide +kernel
theorem dX3_addAmount_14 : decode cX3_addAmount 14 = .ok (.getfield 19, 3) := by decide +kernel
theorem dX3_addAmount_17 : decode cX3_addAmount 17 = .ok (.aload_n 0, 1) := by decide +kernel
theorem dX3_addAmount_18 : decode cX3_addAmount 18 = .ok (.getfield 19, 3) := by decide +kernel
theorem dX3_addAmount_21 : decode cX3_addAmount 21 = .ok (.getfield 46, 3) := by decide +kernel
theorem dX3_addAmount_24 : decode cX3_addAmount 24 = .ok (.iload_n 1, 1) := by decide +kernel
theorem dX3_addAmount_25 : decode cX3_addAmount 25 = .ok (.iload_n 2, 1) := by decide +kernel
theorem dX3_addAmount_26 : decode cX3_addAmount 26 = .ok (.invokevirtual 61, 3) := by decide +kernel
theorem dX3_addAmount_29 : decode cX3_addAmount 29 = .ok (.return_, 1) := by decide +kernel
theorem dX3_addFilmTakings_0 : decode cX3_addFilmTakings 0 = .ok (.iconst 0, 1) := by decide +kernel
theorem dX3_addFilmTakings_1 : decode cX3_addFilmTakings 1 = .ok (.istore_n 1, 1) := by decide +kernel
theorem dX3_addFilmTakings_2 : decode cX3_addFilmTakings 2 = .ok (.iload_n 1, 1) := by decide +kernel
theorem dX3_addFilmTakings_3 : decode cX3_addFilmTakings 3 = .ok (.aload_n 0, 1) := by decide +kernel
theorem dX3_addFilmTakings_4 : decode cX3_addFilmTakings 4 = .ok (.getfield 15, 3) := by decide +kernel
theorem dX3_addFilmTakings_7 : decode cX3_addFilmTakings 7 = .ok (.getfield 90, 3) := by decide +kernel
theorem dX3_addFilmTakings_10 : decode cX3_addFilmTakings 10 = .ok (.if_icmp .ge 29, 3) := by decide +kernel
theorem dX3_addFilmTakings_13 : decode cX3_addFilmTakings 13 = .ok (.aload_n 0, 1) := by decide +kernel
theorem dX3_addFilmTakings_14 : decode cX3_addFilmTakings 14 = .ok (.getfield 19, 3) := by decide +kernel
theorem dX3_addFilmTakings_17 : decode cX3_addFilmTakings 17 = .ok (.getfield 93, 3) := by decide +kernel
theorem dX3_addFilmTakings_20 : decode cX3_addFilmTakings 20 = .ok (.iload_n 1, 1) := by decide +kernel
theorem dX3_addFilmTakings_21 : decode cX3_addFilmTakings 21 = .ok (.dup2, 1) := by decide +kernel
theorem dX3_addFilmTakings_22 : decode cX3_addFilmTakings 22 = .ok (.iaload, 1) := by decide +kernel
theorem dX3_addFilmTakings_23 : decode cX3_addFilmTakings 23 = .ok (.aload_n 0, 1) := by decide +kernel
theorem dX3_addFilmTakings_24 : decode cX3_addFilmTakings 24 = .ok (.getfield 23, 3) := by decide +kernel
theorem dX3_addFilmTakings_27 : decode cX3_addFilmTakings 27 = .ok (.iload_n 1, 1) := by decide +kernel
theorem dX3_addFilmTakings_28 : decode cX3_addFilmTakings 28 = .ok (.invokevirtual 96, 3) := by decide +kernel
theorem dX3_addFilmTakings_31 : decode cX3_addFilmTakings 31 = .ok (.iadd, 1) := by decide +kernel
theorem dX3_addFilmTakings_32 : decode cX3_addFilmTakings 32 = .ok (.iastore, 1) := by decide +kernel
theorem dX3_addFilmTakings_33 : decode cX3_addFilmTakings 33 = .ok (.iinc 1 1, 3) := by decide +kernel
theorem dX3_addFilmTakings_36 : decode cX3_addFilmTakings 36 = .ok (.goto (-34), 3) := by decide +kernel
theorem dX3_addFilmTakings_39 : decode cX3_addFilmTakings 39 = .ok (.return_, 1) := by decide +kernel
theorem dX3_addRuns_0 : decode cX3_addRuns 0 = .ok (.iconst 0, 1) := by decide +kernel
theorem dX3_addRuns_1 : decode cX3_addRuns 1 = .ok (.istore_n 1, 1) := by decide +kernel
theorem dX3_addRuns_2 : decode cX3_addRuns 2 = .ok (.iload_n 1, 1) := by decide +kernel
theorem dX3_addRuns_3 : decode cX3_addRuns 3 = .ok (.aload_n 0, 1) := by decide +kernel
theorem dX3_addRuns_4 : decode cX3_addRuns 4 = .ok (.getfield 15, 3) := by decide +kernel
theorem dX3_addRuns_7 : decode cX3_addRuns 7 = .ok (.getfield 71, 3) := by decide +kernel
theorem dX3_addRuns_10 : decode cX3_addRuns 10 = .ok (.if_icmp .ge 46, 3) := by decide +kernel
theorem dX3_addRuns_13 : decode cX3_addRuns 13 = .ok (.iconst 0, 1) := by decide +kernel
theorem dX3_addRuns_14 : decode cX3_addRuns 14 = .ok (.istore_n 2, 1) := by decide +kernel
theorem dX3_addRuns_15 : decode cX3_addRuns 15 = .ok (.iload_n 2, 1) := by decide +kernel
theorem dX3_addRuns_16 : decode cX3_addRuns 16 = .ok (.aload_n 0, 1) := by decide +kernel
theorem dX3_addRuns_17 : decode cX3_addRuns 17 = .ok (.getfield 15, 3) := by decide +kernel
theorem dX3_addRuns_20 : decode cX3_addRuns 20 = .ok (.getfield 90, 3) := by decide +kernel
theorem dX3_addRuns_23 : decode cX3_addRuns 23 = .ok (.if_icmp .ge 27, 3) := by decide +kernel
theorem dX3_addRuns_26 : decode cX3_addRuns 26 = .ok (.aload_n 0, 1) := by decide +kernel
theorem dX3_addRuns_27 : decode cX3_addRuns 27 = .ok (.getfield 23, 3) := by decide +kernel
theorem dX3_addRuns_30 : decode cX3_addRuns 30 = .ok (.iload_n 1, 1) := by decide +kernel
theorem dX3_addRuns_31 : decode cX3_addRuns 31 = .ok (.iload_n 2, 1) := by decide +kernel
theorem dX3_addRuns_32 : decode cX3_addRuns 32 = .ok (.invokevirtual 98, 3) := by decide +kernel
theorem dX3_addRuns_35 : decode cX3_addRuns 35 = .ok (.ifCond .eq 9, 3) := by decide +kernel
theorem dX3_addRuns_38 : decode cX3_addRuns 38 = .ok (.aload_n 0, 1) := by decide +kernel
theorem dX3_addRuns_39 : decode cX3_addRuns 39 = .ok (.iload_n 1, 1) := by decide +kernel
theorem dX3_addRuns_40 : decode cX3_addRuns 40 = .ok (.iload_n 2, 1) := by decide +kernel
theorem dX3_addRuns_41 : decode cX3_addRuns 41 = .ok (.invokevirtual 102, 3) := by decide +kernel
theorem dX3_addRuns_44 : decode cX3_addRuns 44 = .ok (.iinc 2 1, 3) := by decide +kernel
theorem dX3_addRuns_47 : decode cX3_addRuns 47 = .ok (.goto (-32), 3) := by decide +kernel
theorem dX3_addRuns_50 : decode cX3_addRuns 50 = .ok (.iinc 1 1, 3) := by decide +kernel
theorem dX3_addRuns_53 : decode cX3_addRuns 53 = .ok (.goto (-51), 3) := by decide +kernel
theorem dX3_addRuns_56 : decode cX3_addRuns 56 = .ok (.return_, 1) := by decide +kernel
theorem dX3_addRun_0 : decode cX3_addRun 0 = .ok (.aload_n 0, 1) := by decide +kernel
theorem dX3_addRun_1 : decode cX3_addRun 1 = .ok (.getfield 19, 3) := by decide +kernel
theorem dX3_addRun_4 : decode cX3_addRun 4 = .ok (.getfield 105, 3) := by decide +kernel
theorem dX3_addRun_7 : decode cX3_addRun 7 = .ok (.iload_n 1, 1) := by decide +kernel
theorem dX3_addRun_8 : decode cX3_addRun 8 = .ok (.bipush 6, 2) := by decide +kernel
theorem dX3_addRun_10 : decode cX3_addRun 10 = .ok (.imul, 1) := by decide +kernel
theorem dX3_addRun_11 : decode cX3_addRun 11 = .ok (.iload_n 2, 1) := by decide +kernel
theorem dX3_addRun_12 : decode cX3_addRun 12 = .ok (.iadd, 1) := by decide +kernel
theorem dX3_addRun_13 : decode cX3_addRun 13 = .ok (.dup2, 1) := by decide +kernel
theorem dX3_addRun_14 : decode cX3_addRun 14 = .ok (.iaload, 1) := by decide +kernel
theorem dX3_addRun_15 : decode cX3_addRun 15 = .ok (.iconst 1, 1) := by decide +kernel
theorem dX3_addRun_16 : decode cX3_addRun 16 = .ok (.iadd, 1) := by decide +kernel
theorem dX3_addRun_17 : decode cX3_addRun 17 = .ok (.iastore, 1) := by decide +kernel
theorem dX3_addRun_18 : decode cX3_addRun 18 = .ok (.aload_n 0, 1) := by decide +kernel
theorem dX3_addRun_19 : decode cX3_addRun 19 = .ok (.getfield 19, 3) := by decide +kernel
theorem dX3_addRun_22 : decode cX3_addRun 22 = .ok (.getfield 108, 3) := by decide +kernel
theorem dX3_addRun_25 : decode cX3_addRun 25 = .ok (.iload_n 2, 1) := by decide +kernel
theorem dX3_addRun_26 : decode cX3_addRun 26 = .ok (.iaload, 1) := by decide +kernel
theorem dX3_addRun_27 : decode cX3_addRun 27 = .ok (.iconst (-1), 1) := by decide +kernel
theorem dX3_addRun_28 : decode cX3_addRun 28 = .ok (.if_icmp .ne 19, 3) := by decide +kernel
theorem dX3_addRun_31 : decode cX3_addRun 31 = .ok (.aload_n 0, 1) := by decide +kernel
theorem dX3_addRun_32 : decode cX3_addRun 32 = .ok (.getfield 19, 3) := by decide +kernel
theorem dX3_addRun_35 : decode cX3_addRun 35 = .ok (.getfield 108, 3) := by decide +kernel
theorem dX3_addRun_38 : decode cX3_addRun 38 = .ok (.iload_n 2, 1) := by decide +kernel
theorem dX3_addRun_39 : decode cX3_addRun 39 = .ok (.aload_n 0, 1) := by decide +kernel
theorem dX3_addRun_40 : decode cX3_addRun 40 = .ok (.getfield 19, 3) := by decide +kernel
theorem dX3_addRun_43 : decode cX3_addRun 43 = .ok (.getfield 46, 3) := by decide +kernel
theorem dX3_addRun_46 : decode cX3_addRun 46 = .ok (.iastore, 1) := by decide +kernel
theorem dX3_addRun_47 : decode cX3_addRun 47 = .ok (.return_, 1) := by decide +kernel
theorem dX3_holdScreens_0 : decode cX3_holdScreens 0 = .ok (.iconst 0, 1) := by decide +kernel
theorem dX3_holdScreens_1 : decode cX3_holdScreens 1 = .ok (.istore_n 1, 1) := by decide +kernel
theorem dX3_holdScreens_2 : decode cX3_holdScreens 2 = .ok (.iload_n 1, 1) := by decide +kernel
theorem dX3_holdScreens_3 : decode cX3_holdScreens 3 = .ok (.aload_n 0, 1) := by decide +kernel
theorem dX3_holdScreens_4 : decode cX3_holdScreens 4 = .ok (.getfield 15, 3) := by decide +kernel
theorem dX3_holdScreens_7 : decode cX3_holdScreens 7 = .ok (.getfield 52, 3) := by decide +kernel
theorem dX3_holdScreens_10 : decode cX3_holdScreens 10 = .ok (.if_icmp .ge 40, 3) := by decide +kernel
theorem dX3_holdScreens_13 : decode cX3_holdScreens 13 = .ok (.aload_n 0, 1) := by decide +kernel
theorem dX3_holdScreens_14 : decode cX3_holdScreens 14 = .ok (.getfield 9, 3) := by decide +kernel
theorem dX3_holdScreens_17 : decode cX3_holdScreens 17 = .ok (.iload_n 1, 1) := by decide +kernel
theorem dX3_holdScreens_18 : decode cX3_holdScreens 18 = .ok (.aload_n 0, 1) := by decide +kernel
theorem dX3_holdScreens_19 : decode cX3_holdScreens 19 = .ok (.getfield 23, 3) := by decide +kernel
theorem dX3_holdScreens_22 : decode cX3_holdScreens 22 = .ok (.iload_n 1, 1) := by decide +kernel
theorem dX3_holdScreens_23 : decode cX3_holdScreens 23 = .ok (.invokevirtual 111, 3) := by decide +kernel
theorem dX3_holdScreens_26 : decode cX3_holdScreens 26 = .ok (.ifCond .eq 16, 3) := by decide +kernel
theorem dX3_holdScreens_29 : decode cX3_holdScreens 29 = .ok (.aload_n 0, 1) := by decide +kernel
theorem dX3_holdScreens_30 : decode cX3_holdScreens 30 = .ok (.getfield 19, 3) := by decide +kernel
theorem dX3_holdScreens_33 : decode cX3_holdScreens 33 = .ok (.iload_n 1, 1) := by decide +kernel
theorem dX3_holdScreens_34 : decode cX3_holdScreens 34 = .ok (.bipush 6, 2) := by decide +kernel
theorem dX3_holdScreens_36 : decode cX3_holdScreens 36 = .ok (.invokevirtual 115, 3) := by decide +kernel
theorem dX3_holdScreens_39 : decode cX3_holdScreens 39 = .ok (.goto 4, 3) := by decide +kernel
theorem dX3_holdScreens_42 : decode cX3_holdScreens 42 = .ok (.iconst (-1), 1) := by decide +kernel
theorem dX3_holdScreens_43 : decode cX3_holdScreens 43 = .ok (.iastore, 1) := by decide +kernel
theorem dX3_holdScreens_44 : decode cX3_holdScreens 44 = .ok (.iinc 1 1, 3) := by decide +kernel
theorem dX3_holdScreens_47 : decode cX3_holdScreens 47 = .ok (.goto (-45), 3) := by decide +kernel
theorem dX3_holdScreens_50 : decode cX3_holdScreens 50 = .ok (.iconst 0, 1) := by decide +kernel
theorem dX3_holdScreens_51 : decode cX3_holdScreens 51 = .ok (.istore_n 1, 1) := by decide +kernel
theorem dX3_holdScreens_52 : decode cX3_holdScreens 52 = .ok (.iload_n 1, 1) := by decide +kernel
theorem dX3_holdScreens_53 : decode cX3_holdScreens 53 = .ok (.aload_n 0, 1) := by decide +kernel
theorem dX3_holdScreens_54 : decode cX3_holdScreens 54 = .ok (.getfield 15, 3) := by decide +kernel
theorem dX3_holdScreens_57 : decode cX3_holdScreens 57 = .ok (.getfield 52, 3) := by decide +kernel
theorem dX3_holdScreens_60 : decode cX3_holdScreens 60 = .ok (.if_icmp .ge 49, 3) := by decide +kernel
theorem dX3_holdScreens_63 : decode cX3_holdScreens 63 = .ok (.aload_n 0, 1) := by decide +kernel
theorem dX3_holdScreens_64 : decode cX3_holdScreens 64 = .ok (.getfield 19, 3) := by decide +kernel
theorem dX3_holdScreens_67 : decode cX3_holdScreens 67 = .ok (.iload_n 1, 1) := by decide +kernel
theorem dX3_holdScreens_68 : decode cX3_holdScreens 68 = .ok (.aload_n 0, 1) := by decide +kernel
theorem dX3_holdScreens_69 : decode cX3_holdScreens 69 = .ok (.getfield 9, 3) := by decide +kernel
theorem dX3_holdScreens_72 : decode cX3_holdScreens 72 = .ok (.iload_n 1, 1) := by decide +kernel
theorem dX3_holdScreens_73 : decode cX3_holdScreens 73 = .ok (.iaload, 1) := by decide +kernel
theorem dX3_holdScreens_74 : decode cX3_holdScreens 74 = .ok (.iconst (-1), 1) := by decide +kernel
theorem dX3_holdScreens_75 : decode cX3_holdScreens 75 = .ok (.iconst 0, 1) := by decide +kernel
theorem dX3_holdScreens_76 : decode cX3_holdScreens 76 = .ok (.invokevirtual 119, 3) := by decide +kernel
theorem dX3_holdScreens_79 : decode cX3_holdScreens 79 = .ok (.aload_n 0, 1) := by decide +kernel
theorem dX3_holdScreens_80 : decode cX3_holdScreens 80 = .ok (.getfield 19, 3) := by decide +kernel
theorem dX3_holdScreens_83 : decode cX3_holdScreens 83 = .ok (.getfield 123, 3) := by decide +kernel
theorem dX3_holdScreens_86 : decode cX3_holdScreens 86 = .ok (.iload_n 1, 1) := by decide +kernel
theorem dX3_holdScreens_87 : decode cX3_holdScreens 87 = .ok (.aload_n 0, 1) := by decide +kernel
theorem dX3_holdScreens_88 : decode cX3_holdScreens 88 = .ok (.getfield 9, 3) := by decide +kernel
theorem dX3_holdScreens_91 : decode cX3_holdScreens 91 = .ok (.iload_n 1, 1) := by decide +kernel
theorem dX3_holdScreens_92 : decode cX3_holdScreens 92 = .ok (.iaload, 1) := by decide +kernel
theorem dX3_holdScreens_93 : decode cX3_holdScreens 93 = .ok (.iconst (-1), 1) := by decide +kernel
theorem dX3_holdScreens_94 : decode cX3_holdScreens 94 = .ok (.if_icmp .ne 7, 3) := by decide +kernel
theorem dX3_holdScreens_97 : decode cX3_holdScreens 97 = .ok (.iconst 0, 1) := by decide +kernel
theorem dX3_holdScreens_98 : decode cX3_holdScreens 98 = .ok (.goto 4, 3) := by decide +kernel
theorem dX3_holdScreens_101 : decode cX3_holdScreens 101 = .ok (.iconst 1, 1) := by decide +kernel
theorem dX3_holdScreens_102 : decode cX3_holdScreens 102 = .ok (.iastore, 1) := by decide +kernel
theorem dX3_holdScreens_103 : decode cX3_holdScreens 103 = .ok (.iinc 1 1, 3) := by decide +kernel
theorem dX3_holdScreens_106 : decode cX3_holdScreens 106 = .ok (.goto (-54), 3) := by decide +kernel
theorem dX3_holdScreens_109 : decode cX3_holdScreens 109 = .ok (.return_, 1) := by decide +kernel
theorem dX3_ageFilms_0 : decode cX3_ageFilms 0 = .ok (.iconst 0, 1) := by decide +kernel
theorem dX3_ageFilms_1 : decode cX3_ageFilms 1 = .ok (.istore_n 1, 1) := by decide +kernel
theorem dX3_ageFilms_2 : decode cX3_ageFilms 2 = .ok (.iload_n 1, 1) := by decide +kernel
theorem dX3_ageFilms_3 : decode cX3_ageFilms 3 = .ok (.aload_n 0, 1) := by decide +kernel
theorem dX3_ageFilms_4 : decode cX3_ageFilms 4 = .ok (.getfield 15, 3) := by decide +kernel
theorem dX3_ageFilms_7 : decode cX3_ageFilms 7 = .ok (.getfield 90, 3) := by decide +kernel
theorem dX3_ageFilms_10 : decode cX3_ageFilms 10 = .ok (.if_icmp .ge 53, 3) := by decide +kernel
theorem dX3_ageFilms_13 : decode cX3_ageFilms 13 = .ok (.aload_n 0, 1) := by decide +kernel
theorem dX3_ageFilms_14 : decode cX3_ageFilms 14 = .ok (.getfield 19, 3) := by decide +kernel
theorem dX3_ageFilms_17 : decode cX3_ageFilms 17 = .ok (.getfield 108, 3) := by decide +kernel
theorem dX3_ageFilms_20 : decode cX3_ageFilms 20 = .ok (.iload_n 1, 1) := by decide +kernel
theorem dX3_ageFilms_21 : decode cX3_ageFilms 21 = .ok (.iaload, 1) := by decide +kernel
theorem dX3_ageFilms_22 : decode cX3_ageFilms 22 = .ok (.iconst (-1), 1) := by decide +kernel
theorem dX3_ageFilms_23 : decode cX3_ageFilms 23 = .ok (.if_icmp .eq 34, 3) := by decide +kernel
theorem dX3_ageFilms_26 : decode cX3_ageFilms 26 = .ok (.aload_n 0, 1) := by decide +kernel
theorem dX3_ageFilms_27 : decode cX3_ageFilms 27 = .ok (.getfield 19, 3) := by decide +kernel
theorem dX3_ageFilms_30 : decode cX3_ageFilms 30 = .ok (.getfield 126, 3) := by decide +kernel
theorem dX3_ageFilms_33 : decode cX3_ageFilms 33 = .ok (.iload_n 1, 1) := by decide +kernel
theorem dX3_ageFilms_34 : decode cX3_ageFilms 34 = .ok (.aload_n 0, 1) := by decide +kernel
theorem dX3_ageFilms_35 : decode cX3_ageFilms 35 = .ok (.getfield 19, 3) := by decide +kernel
theorem dX3_ageFilms_38 : decode cX3_ageFilms 38 = .ok (.getfield 126, 3) := by decide +kernel
theorem dX3_ageFilms_41 : decode cX3_ageFilms 41 = .ok (.iload_n 1, 1) := by decide +kernel
theorem dX3_ageFilms_42 : decode cX3_ageFilms 42 = .ok (.iaload, 1) := by decide +kernel
theorem dX3_ageFilms_43 : decode cX3_ageFilms 43 = .ok (.aload_n 0, 1) := by decide +kernel
theorem dX3_ageFilms_44 : decode cX3_ageFilms 44 = .ok (.getfield 15, 3) := by decide +kernel
theorem dX3_ageFilms_47 : decode cX3_ageFilms 47 = .ok (.getfield 129, 3) := by decide +kernel
theorem dX3_ageFilms_50 : decode cX3_ageFilms 50 = .ok (.iload_n 1, 1) := by decide +kernel
theorem dX3_ageFilms_51 : decode cX3_ageFilms 51 = .ok (.iaload, 1) := by decide +kernel
theorem dX3_ageFilms_52 : decode cX3_ageFilms 52 = .ok (.imul, 1) := by decide +kernel
theorem dX3_ageFilms_53 : decode cX3_ageFilms 53 = .ok (.bipush 100, 2) := by decide +kernel
theorem dX3_ageFilms_55 : decode cX3_ageFilms 55 = .ok (.idiv, 1) := by decide +kernel
theorem dX3_ageFilms_56 : decode cX3_ageFilms 56 = .ok (.iastore, 1) := by decide +kernel
theorem dX3_ageFilms_57 : decode cX3_ageFilms 57 = .ok (.iinc 1 1, 3) := by decide +kernel
theorem dX3_ageFilms_60 : decode cX3_ageFilms 60 = .ok (.goto (-58), 3) := by decide +kernel
theorem dX3_ageFilms_63 : decode cX3_ageFilms 63 = .ok (.return_, 1) := by decide +kernel
theorem dX4_init_0 : decode cX4_init 0 = .ok (.aload_n 0, 1) := by decide +kernel
theorem dX4_init_1 : decode cX4_init 1 = .ok (.invokespecial 3, 3) := by decide +kernel
theorem dX4_init_4 : decode cX4_init 4 = .ok (.aload_n 0, 1) := by decide +kernel
theorem dX4_init_5 : decode cX4_init 5 = .ok (.bipush 10, 2) := by decide +kernel
theorem dX4_init_7 : decode cX4_init 7 = .ok (.anewarray 9, 3) := by decide +kernel
theorem dX4_init_10 : decode cX4_init 10 = .ok (.putfield 11, 3) := by decide +kernel
theorem dX4_init_13 : decode cX4_init 13 = .ok (.aload_n 0, 1) := by decide +kernel
theorem dX4_init_14 : decode cX4_init 14 = .ok (.new 9, 3) := by decide +kernel
theorem dX4_init_17 : decode cX4_init 17 = .ok (.dup, 1) := by decide +kernel
theorem dX4_init_18 : decode cX4_init 18 = .ok (.invokespecial 17, 3) := by decide +kernel
theorem dX4_init_21 : decode cX4_init 21 = .ok (.putfield 18, 3) := by decide +kernel
theorem dX4_init_24 : decode cX4_init 24 = .ok (.iconst 0, 1) := by decide +kernel
theorem dX4_init_25 : decode cX4_init 25 = .ok (.istore_n 1, 1) := by decide +kernel
theorem dX4_init_26 : decode cX4_init 26 = .ok (.iload_n 1, 1) := by decide +kernel
theorem dX4_init_27 : decode cX4_init 27 = .ok (.bipush 10, 2) := by decide +kernel
theorem dX4_init_29 : decode cX4_init 29 = .ok (.if_icmp .ge 22, 3) := by decide +kernel
theorem dX4_init_32 : decode cX4_init 32 = .ok (.aload_n 0, 1) := by decide +kernel
theorem dX4_init_33 : decode cX4_init 33 = .ok (.getfield 11, 3) := by decide +kernel
theorem dX4_init_36 : decode cX4_init 36 = .ok (.iload_n 1, 1) := by decide +kernel
theorem dX4_init_37 : decode cX4_init 37 = .ok (.new 9, 3) := by decide +kernel
theorem dX4_init_40 : decode cX4_init 40 = .ok (.dup, 1) := by decide +kernel
theorem dX4_init_41 : decode cX4_init 41 = .ok (.invokespecial 17, 3) := by decide +kernel
theorem dX4_init_44 : decode cX4_init 44 = .ok (.aastore, 1) := by decide +kernel
theorem dX4_init_45 : decode cX4_init 45 = .ok (.iinc 1 1, 3) := by decide +kernel
theorem dX4_init_48 : decode cX4_init 48 = .ok (.goto (-22), 3) := by decide +kernel
theorem dX4_init_51 : decode cX4_init 51 = .ok (.return_, 1) := by decide +kernel
theorem dX4_record_0 : decode cX4_record 0 = .ok (.aload_n 0, 1) := by decide +kernel
theorem dX4_record_1 : decode cX4_record 1 = .ok (.getfield 11, 3) := by decide +kernel
theorem dX4_record_4 : decode cX4_record 4 = .ok (.aload_n 0, 1) := by decide +kernel
theorem dX4_record_5 : decode cX4_record 5 = .ok (.getfield 22, 3) := by decide +kernel
theorem dX4_record_8 : decode cX4_record 8 = .ok (.aaload, 1) := by decide +kernel
theorem dX4_record_9 : decode cX4_record 9 = .ok (.aload_n 1, 1) := by decide +kernel
theorem dX4_record_10 : decode cX4_record 10 = .ok (.invokevirtual 26, 3) := by decide +kernel
theorem dX4_record_13 : decode cX4_record 13 = .ok (.aload_n 0, 1) := by decide +kernel
theorem dX4_record_14 : decode cX4_record 14 = .ok (.aload_n 0, 1) := by decide +kernel
theorem dX4_record_15 : decode cX4_record 15 = .ok (.getfield 22, 3) := by decide +kernel
theorem dX4_record_18 : decode cX4_record 18 = .ok (.iconst 1, 1) := by decide +kernel
theorem dX4_record_19 : decode cX4_record 19 = .ok (.iadd, 1) := by decide +kernel
theorem dX4_record_20 : decode cX4_record 20 = .ok (.bipush 10, 2) := by decide +kernel
theorem dX4_record_22 : decode cX4_record 22 = .ok (.irem, 1) := by decide +kernel
theorem dX4_record_23 : decode cX4_record 23 = .ok (.putfield 22, 3) := by decide +kernel
theorem dX4_record_26 : decode cX4_record 26 = .ok (.aload_n 0, 1) := by decide +kernel
theorem dX4_record_27 : decode cX4_record 27 = .ok (.aload_n 0, 1) := by decide +kernel
theorem dX4_record_28 : decode cX4_record 28 = .ok (.getfield 30, 3) := by decide +kernel
theorem dX4_record_31 : decode cX4_record 31 = .ok (.iconst 1, 1) := by decide +kernel
theorem dX4_record_32 : decode cX4_record 32 = .ok (.iadd, 1) := by decide +kernel
theorem dX4_record_33 : decode cX4_record 33 = .ok (.bipush 10, 2) := by decide +kernel
theorem dX4_record_35 : decode cX4_record 35 = .ok (.invokestatic 33, 3) := by decide +kernel
theorem dX4_record_38 : decode cX4_record 38 = .ok (.putfield 30, 3) := by decide +kernel
theorem dX4_record_41 : decode cX4_record 41 = .ok (.return_, 1) := by decide +kernel
theorem dX4_takeBack_0 : decode cX4_takeBack 0 = .ok (.aload_n 0, 1) := by decide +kernel
theorem dX4_takeBack_1 : decode cX4_takeBack 1 = .ok (.aload_n 0, 1) := by decide +kernel
theorem dX4_takeBack_2 : decode cX4_takeBack 2 = .ok (.getfield 22, 3) := by decide +kernel
theorem dX4_takeBack_5 : decode cX4_takeBack 5 = .ok (.bipush 10, 2) := by decide +kernel
theorem dX4_takeBack_7 : decode cX4_takeBack 7 = .ok (.iadd, 1) := by decide +kernel
theorem dX4_takeBack_8 : decode cX4_takeBack 8 = .ok (.iconst 1, 1) := by decide +kernel
theorem dX4_takeBack_9 : decode cX4_takeBack 9 = .ok (.isub, 1) := by decide +kernel
theorem dX4_takeBack_10 : decode cX4_takeBack 10 = .ok (.bipush 10, 2) := by decide +kernel
theorem dX4_takeBack_12 : decode cX4_takeBack 12 = .ok (.irem, 1) := by decide +kernel
theorem dX4_takeBack_13 : decode cX4_takeBack 13 = .ok (.putfield 22, 3) := by decide +kernel
theorem dX4_takeBack_16 : decode cX4_takeBack 16 = .ok (.aload_n 1, 1) := by decide +kernel
theorem dX4_takeBack_17 : decode cX4_takeBack 17 = .ok (.aload_n 0, 1) := by decide +kernel
theorem dX4_takeBack_18 : decode cX4_takeBack 18 = .ok (.getfield 11, 3) := by decide +kernel
theorem dX4_takeBack_21 : decode cX4_takeBack 21 = .ok (.aload_n 0, 1) := by decide +kernel
theorem dX4_takeBack_22 : decode cX4_takeBack 22 = .ok (.getfield 22, 3) := by decide +kernel
theorem dX4_takeBack_25 : decode cX4_takeBack 25 = .ok (.aaload, 1) := by decide +kernel
theorem dX4_takeBack_26 : decode cX4_takeBack 26 = .ok (.invokevirtual 26, 3) := by decide +kernel
theorem dX4_takeBack_29 : decode cX4_takeBack 29 = .ok (.aload_n 0, 1) := by decide +kernel
theorem dX4_takeBack_30 : decode cX4_takeBack 30 = .ok (.dup, 1) := by decide +kernel
theorem dX4_takeBack_31 : decode cX4_takeBack 31 = .ok (.getfield 30, 3) := by decide +kernel
theorem dX4_takeBack_34 : decode cX4_takeBack 34 = .ok (.iconst 1, 1) := by decide +kernel
theorem dX4_takeBack_35 : decode cX4_takeBack 35 = .ok (.isub, 1) := by decide +kernel
theorem dX4_takeBack_36 : decode cX4_takeBack 36 = .ok (.putfield 30, 3) := by decide +kernel
theorem dX4_takeBack_39 : decode cX4_takeBack 39 = .ok (.return_, 1) := by decide +kernel
theorem dX4_discardAll_0 : decode cX4_discardAll 0 = .ok (.aload_n 0, 1) := by decide +kernel
theorem dX4_discardAll_1 : decode cX4_discardAll 1 = .ok (.iconst 0, 1) := by decide +kernel
theorem dX4_discardAll_2 : decode cX4_discardAll 2 = .ok (.putfield 30, 3) := by decide +kernel
theorem dX4_discardAll_5 : decode cX4_discardAll 5 = .ok (.aload_n 0, 1) := by decide +kernel
theorem dX4_discardAll_6 : decode cX4_discardAll 6 = .ok (.iconst 0, 1) := by decide +kernel
theorem dX4_discardAll_7 : decode cX4_discardAll 7 = .ok (.putfield 39, 3) := by decide +kernel
theorem dX4_discardAll_10 : decode cX4_discardAll 10 = .ok (.return_, 1) := by decide +kernel
theorem dX5_init_0 : decode cX5_init 0 = .ok (.aload_n 0, 1) := by decide +kernel
theorem dX5_init_1 : decode cX5_init 1 = .ok (.invokespecial 3, 3) := by decide +kernel
theorem dX5_init_4 : decode cX5_init 4 = .ok (.aload_n 0, 1) := by decide +kernel
theorem dX5_init_5 : decode cX5_init 5 = .ok (.iconst 4, 1) := by decide +kernel
theorem dX5_init_6 : decode cX5_init 6 = .ok (.newarray .int, 2) := by decide +kernel
theorem dX5_init_8 : decode cX5_init 8 = .ok (.putfield 9, 3) := by decide +kernel
theorem dX5_init_11 : decode cX5_init 11 = .ok (.aload_n 0, 1) := by decide +kernel
theorem dX5_init_12 : decode cX5_init 12 = .ok (.iconst 4, 1) := by decide +kernel
theorem dX5_init_13 : decode cX5_init 13 = .ok (.newarray .int, 2) := by decide +kernel
theorem dX5_init_15 : decode cX5_init 15 = .ok (.putfield 15, 3) := by decide +kernel
theorem dX5_init_18 : decode cX5_init 18 = .ok (.aload_n 0, 1) := by decide +kernel
theorem dX5_init_19 : decode cX5_init 19 = .ok (.bipush 6, 2) := by decide +kernel
theorem dX5_init_21 : decode cX5_init 21 = .ok (.newarray .int, 2) := by decide +kernel
theorem dX5_init_23 : decode cX5_init 23 = .ok (.putfield 18, 3) := by decide +kernel
theorem dX5_init_26 : decode cX5_init 26 = .ok (.aload_n 0, 1) := by decide +kernel
theorem dX5_init_27 : decode cX5_init 27 = .ok (.bipush 16, 2) := by decide +kernel
theorem dX5_init_29 : decode cX5_init 29 = .ok (.newarray .int, 2) := by decide +kernel
theorem dX5_init_31 : decode cX5_init 31 = .ok (.putfield 21, 3) := by decide +kernel
theorem dX5_init_34 : decode cX5_init 34 = .ok (.aload_n 0, 1) := by decide +kernel
theorem dX5_init_35 : decode cX5_init 35 = .ok (.bipush 16, 2) := by decide +kernel
theorem dX5_init_37 : decode cX5_init 37 = .ok (.newarray .int, 2) := by decide +kernel
theorem dX5_init_39 : decode cX5_init 39 = .ok (.putfield 24, 3) := by decide +kernel
theorem dX5_init_42 : decode cX5_init 42 = .ok (.aload_n 0, 1) := by decide +kernel
theorem dX5_init_43 : decode cX5_init 43 = .ok (.bipush 16, 2) := by decide +kernel
theorem dX5_init_45 : decode cX5_init 45 = .ok (.newarray .int, 2) := by decide +kernel
theorem dX5_init_47 : decode cX5_init 47 = .ok (.putfield 27, 3) := by decide +kernel
theorem dX5_init_50 : decode cX5_init 50 = .ok (.aload_n 0, 1) := by decide +kernel
theorem dX5_init_51 : decode cX5_init 51 = .ok (.iconst 4, 1) := by decide +kernel
theorem dX5_init_52 : decode cX5_init 52 = .ok (.newarray .int, 2) := by decide +kernel
theorem dX5_init_54 : decode cX5_init 54 = .ok (.putfield 30, 3) := by decide +kernel
theorem dX5_init_57 : decode cX5_init 57 = .ok (.aload_n 0, 1) := by decide +kernel
theorem dX5_init_58 : decode cX5_init 58 = .ok (.iconst 5, 1) := by decide +kernel
theorem dX5_init_59 : decode cX5_init 59 = .ok (.newarray .int, 2) := by decide +kernel
theorem dX5_init_61 : decode cX5_init 61 = .ok (.putfield 33, 3) := by decide +kernel
theorem dX5_init_64 : decode cX5_init 64 = .ok (.aload_n 0, 1) := by decide +kernel
theorem dX5_init_65 : decode cX5_init 65 = .ok (.iconst 5, 1) := by decide +kernel
theorem dX5_init_66 : decode cX5_init 66 = .ok (.newarray .int, 2) := by decide +kernel
theorem dX5_init_68 : decode cX5_init 68 = .ok (.putfield 36, 3) := by decide +kernel
theorem dX5_init_71 : decode cX5_init 71 = .ok (.aload_n 0, 1) := by decide +kernel
theorem dX5_init_72 : decode cX5_init 72 = .ok (.aload_n 1, 1) := by decide +kernel
theorem dX5_init_73 : decode cX5_init 73 = .ok (.putfield 39, 3) := by decide +kernel
theorem dX5_init_76 : decode cX5_init 76 = .ok (.aload_n 0, 1) := by decide +kernel
theorem dX5_init_77 : decode cX5_init 77 = .ok (.aload_n 2, 1) := by decide +kernel
theorem dX5_init_78 : decode cX5_init 78 = .ok (.putfield 43, 3) := by decide +kernel
theorem dX5_init_81 : decode cX5_init 81 = .ok (.aload_n 0, 1) := by decide +kernel
theorem dX5_init_82 : decode cX5_init 82 = .ok (.aload_n 3, 1) := by decide +kernel
theorem dX5_init_83 : decode cX5_init 83 = .ok (.putfield 47, 3) := by decide +kernel
theorem dX5_init_86 : decode cX5_init 86 = .ok (.return_, 1) := by decide +kernel
theorem dX5_greatestGain_0 : decode cX5_greatestGain 0 = .ok (.aload_n 0, 1) := by decide +kernel
theorem dX5_greatestGain_1 : decode cX5_greatestGain 1 = .ok (.iload_n 1, 1) := by decide +kernel
theorem dX5_greatestGain_2 : decode cX5_greatestGain 2 = .ok (.invokevirtual 51, 3) := by decide +kernel
theorem dX5_greatestGain_5 : decode cX5_greatestGain 5 = .ok (.aload_n 0, 1) := by decide +kernel
theorem dX5_greatestGain_6 : decode cX5_greatestGain 6 = .ok (.invokevirtual 55, 3) := by decide +kernel
theorem dX5_greatestGain_9 : decode cX5_greatestGain 9 = .ok (.ireturn, 1) := by decide +kernel
theorem dX5_findBest_0 : decode cX5_findBest 0 = .ok (.aload_n 0, 1) := by decide +kernel
theorem dX5_findBest_1 : decode cX5_findBest 1 = .ok (.iload_n 1, 1) := by decide +kernel
theorem dX5_findBest_2 : decode cX5_findBest 2 = .ok (.invokevirtual 59, 3) := by decide +kernel
theorem dX5_findBest_5 : decode cX5_findBest 5 = .ok (.istore_n 2, 1) := by decide +kernel
theorem dX5_findBest_6 : decode cX5_findBest 6 = .ok (.iconst 0, 1) := by decide +kernel
theorem dX5_findBest_7 : decode cX5_findBest 7 = .ok (.istore_n 3, 1) := by decide +kernel
theorem dX5_findBest_8 : decode cX5_findBest 8 = .ok (.iload_n 3, 1) := by decide +kernel
theorem dX5_findBest_9 : decode cX5_findBest 9 = .ok (.aload_n 0, 1) := by decide +kernel
theorem dX5_findBest_10 : decode cX5_findBest 10 = .ok (.getfield 63, 3) := by decide +kernel
theorem dX5_findBest_13 : decode cX5_findBest 13 = .ok (.if_icmp .ge 26, 3) := by decide +kernel
theorem dX5_findBest_16 : decode cX5_findBest 16 = .ok (.aload_n 0, 1) := by decide +kernel
theorem dX5_findBest_17 : decode cX5_findBest 17 = .ok (.getfield 15, 3) := by decide +kernel
theorem dX5_findBest_20 : decode cX5_findBest 20 = .ok (.iload_n 3, 1) := by decide +kernel
theorem dX5_findBest_21 : decode cX5_findBest 21 = .ok (.iaload, 1) := by decide +kernel
theorem dX5_findBest_22 : decode cX5_findBest 22 = .ok (.bipush (-2), 2) := by decide +kernel
theorem dX5_findBest_24 : decode cX5_findBest 24 = .ok (.if_icmp .ne 9, 3) := by decide +kernel
theorem dX5_findBest_27 : decode cX5_findBest 27 = .ok (.aload_n 0, 1) := by decide +kernel
theorem dX5_findBest_28 : decode cX5_findBest 28 = .ok (.iload_n 3, 1) := by decide +kernel
theorem dX5_findBest_29 : decode cX5_findBest 29 = .ok (.iload_n 2, 1) := by decide +kernel
theorem dX5_findBest_30 : decode cX5_findBest 30 = .ok (.invokevirtual 67, 3) := by decide +kernel
theorem dX5_findBest_33 : decode cX5_findBest 33 = .ok (.iinc 3 1, 3) := by decide +kernel
theorem dX5_findBest_36 : decode cX5_findBest 36 = .ok (.goto (-28), 3) := by decide +kernel
theorem dX5_findBest_39 : decode cX5_findBest 39 = .ok (.return_, 1) := by decide +kernel
theorem dX5_settle_0 : decode cX5_settle 0 = .ok (.iconst (-1), 1) := by decide +kernel
theorem dX5_settle_1 : decode cX5_settle 1 = .ok (.istore_n 3, 1) := by decide +kernel
theorem dX5_settle_2 : decode cX5_settle 2 = .ok (.iload_n 3, 1) := by decide +kernel
theorem dX5_settle_3 : decode cX5_settle 3 = .ok (.aload_n 0, 1) := by decide +kernel
theorem dX5_settle_4 : decode cX5_settle 4 = .ok (.getfield 39, 3) := by decide +kernel
theorem dX5_settle_7 : decode cX5_settle 7 = .ok (.getfield 71, 3) := by decide +kernel
theorem dX5_settle_10 : decode cX5_settle 10 = .ok (.if_icmp .ge 25, 3) := by decide +kernel
theorem dX5_settle_13 : decode cX5_settle 13 = .ok (.aload_n 0, 1) := by decide +kernel
theorem dX5_settle_14 : decode cX5_settle 14 = .ok (.getfield 15, 3) := by decide +kernel
theorem dX5_settle_17 : decode cX5_settle 17 = .ok (.iload_n 1, 1) := by decide +kernel
theorem dX5_settle_18 : decode cX5_settle 18 = .ok (.iload_n 3, 1) := by decide +kernel
theorem dX5_settle_19 : decode cX5_settle 19 = .ok (.iastore, 1) := by decide +kernel
theorem dX5_settle_20 : decode cX5_settle 20 = .ok (.aload_n 0, 1) := by decide +kernel
theorem dX5_settle_21 : decode cX5_settle 21 = .ok (.invokevirtual 55, 3) := by decide +kernel
theorem dX5_settle_24 : decode cX5_settle 24 = .ok (.iload_n 2, 1) := by decide +kernel
theorem dX5_settle_25 : decode cX5_settle 25 = .ok (.if_icmp .ne 4, 3) := by decide +kernel
theorem dX5_settle_28 : decode cX5_settle 28 = .ok (.return_, 1) := by decide +kernel
theorem dX5_settle_29 : decode cX5_settle 29 = .ok (.iinc 3 1, 3) := by decide +kernel
theorem dX5_settle_32 : decode cX5_settle 32 = .ok (.goto (-30), 3) := by decide +kernel
theorem dX5_settle_35 : decode cX5_settle 35 = .ok (.return_, 1) := by decide +kernel
theorem dX5_filmFor_0 : decode cX5_filmFor 0 = .ok (.iconst 0, 1) := by decide +kernel
theorem dX5_filmFor_1 : decode cX5_filmFor 1 = .ok (.istore_n 2, 1) := by decide +kernel
theorem dX5_filmFor_2 : decode cX5_filmFor 2 = .ok (.iload_n 2, 1) := by decide +kernel
theorem dX5_filmFor_3 : decode cX5_filmFor 3 = .ok (.aload_n 0, 1) := by decide +kernel
theorem dX5_filmFor_4 : decode cX5_filmFor 4 = .ok (.getfield 63, 3) := by decide +kernel
theorem dX5_filmFor_7 : decode cX5_filmFor 7 = .ok (.if_icmp .ge 26, 3) := by decide +kernel
theorem dX5_filmFor_10 : decode cX5_filmFor 10 = .ok (.aload_n 0, 1) := by decide +kernel
theorem dX5_filmFor_11 : decode cX5_filmFor 11 = .ok (.getfield 9, 3) := by decide +kernel
theorem dX5_filmFor_14 : decode cX5_filmFor 14 = .ok (.iload_n 2, 1) := by decide +kernel
theorem dX5_filmFor_15 : decode cX5_filmFor 15 = .ok (.iaload, 1) := by decide +kernel
theorem dX5_filmFor_16 : decode cX5_filmFor 16 = .ok (.iload_n 1, 1) := by decide +kernel
theorem dX5_filmFor_17 : decode cX5_filmFor 17 = .ok (.if_icmp .ne 10, 3) := by decide +kernel
theorem dX5_filmFor_20 : decode cX5_filmFor 20 = .ok (.aload_n 0, 1) := by decide +kernel
theorem dX5_filmFor_21 : decode cX5_filmFor 21 = .ok (.getfield 15, 3) := by decide +kernel
theorem dX5_filmFor_24 : decode cX5_filmFor 24 = .ok (.iload_n 2, 1) := by decide +kernel
theorem dX5_filmFor_25 : decode cX5_filmFor 25 = .ok (.iaload, 1) := by decide +kernel
theorem dX5_filmFor_26 : decode cX5_filmFor 26 = .ok (.ireturn, 1) := by decide +kernel
theorem dX5_filmFor_27 : decode cX5_filmFor 27 = .ok (.iinc 2 1, 3) := by decide +kernel
theorem dX5_filmFor_30 : decode cX5_filmFor 30 = .ok (.goto (-28), 3) := by decide +kernel
theorem dX5_filmFor_33 : decode cX5_filmFor 33 = .ok (.iconst (-1), 1) := by decide +kernel
theorem dX5_filmFor_34 : decode cX5_filmFor 34 = .ok (.ireturn, 1) := by decide +kernel
theorem dX5_bookFound_0 : decode cX5_bookFound 0 = .ok (.iconst 0, 1) := by decide +kernel
theorem dX5_bookFound_1 : decode cX5_bookFound 1 = .ok (.istore_n 1, 1) := by decide +kernel
theorem dX5_bookFound_2 : decode cX5_bookFound 2 = .ok (.iconst 0, 1) := by decide +kernel
theorem dX5_bookFound_3 : decode cX5_bookFound 3 = .ok (.istore_n 2, 1) := by decide +kernel
theorem dX5_bookFound_4 : decode cX5_bookFound 4 = .ok (.iload_n 2, 1) := by decide +kernel
theorem dX5_bookFound_5 : decode cX5_bookFound 5 = .ok (.aload_n 0, 1) := by decide +kernel
theorem dX5_bookFound_6 : decode cX5_bookFound 6 = .ok (.getfield 63, 3) := by decide +kernel
theorem dX5_bookFound_9 : decode cX5_bookFound 9 = .ok (.if_icmp .ge 55, 3) := by decide +kernel
theorem dX5_bookFound_12 : decode cX5_bookFound 12 = .ok (.aload_n 0, 1) := by decide +kernel
theorem dX5_bookFound_13 : decode cX5_bookFound 13 = .ok (.getfield 43, 3) := by decide +kernel
theorem dX5_bookFound_16 : decode cX5_bookFound 16 = .ok (.aload_n 0, 1) := by decide +kernel
theorem dX5_bookFound_17 : decode cX5_bookFound 17 = .ok (.getfield 9, 3) := by decide +kernel
theorem dX5_bookFound_20 : decode cX5_bookFound 20 = .ok (.iload_n 2, 1) := by decide +kernel
theorem dX5_bookFound_21 : decode cX5_bookFound 21 = .ok (.iaload, 1) := by decide +kernel
theorem dX5_bookFound_22 : decode cX5_bookFound 22 = .ok (.aload_n 0, 1) := by decide +kernel
theorem dX5_bookFound_23 : decode cX5_bookFound 23 = .ok (.getfield 15, 3) := by decide +kernel
theorem dX5_bookFound_26 : decode cX5_bookFound 26 = .ok (.iload_n 2, 1) := by decide +kernel
theorem dX5_bookFound_27 : decode cX5_bookFound 27 = .ok (.iaload, 1) := by decide +kernel
theorem dX5_bookFound_28 : decode cX5_bookFound 28 = .ok (.invokevirtual 76, 3) := by decide +kernel
theorem dX5_bookFound_31 : decode cX5_bookFound 31 = .ok (.ifCond .ne 27, 3) := by decide +kernel
theorem dX5_bookFound_34 : decode cX5_bookFound 34 = .ok (.aload_n 0, 1) := by decide +kernel
theorem dX5_bookFound_35 : decode cX5_bookFound 35 = .ok (.getfield 43, 3) := by decide +kernel
theorem dX5_bookFound_38 : decode cX5_bookFound 38 = .ok (.aload_n 0, 1) := by decide +kernel
theorem dX5_bookFound_39 : decode cX5_bookFound 39 = .ok (.getfield 9, 3) := by decide +kernel
theorem dX5_bookFound_42 : decode cX5_bookFound 42 = .ok (.iload_n 2, 1) := by decide +kernel
theorem dX5_bookFound_43 : decode cX5_bookFound 43 = .ok (.iaload, 1) := by decide +kernel
theorem dX5_bookFound_44 : decode cX5_bookFound 44 = .ok (.aload_n 0, 1) := by decide +kernel
theorem dX5_bookFound_45 : decode cX5_bookFound 45 = .ok (.getfield 15, 3) := by decide +kernel
theorem dX5_bookFound_48 : decode cX5_bookFound 48 = .ok (.iload_n 2, 1) := by decide +kernel
theorem dX5_bookFound_49 : decode cX5_bookFound 49 = .ok (.iaload, 1) := by decide +kernel
theorem dX5_bookFound_50 : decode cX5_bookFound 50 = .ok (.iconst (-1), 1) := by decide +kernel
theorem dX5_bookFound_51 : decode cX5_bookFound 51 = .ok (.iconst 0, 1) := by decide +kernel
theorem dX5_bookFound_52 : decode cX5_bookFound 52 = .ok (.invokevirtual 82, 3) := by decide +kernel
theorem dX5_bookFound_55 : decode cX5_bookFound 55 = .ok (.iinc 1 1, 3) := by decide +kernel
theorem dX5_bookFound_58 : decode cX5_bookFound 58 = .ok (.iinc 2 1, 3) := by decide +kernel
theorem dX5_bookFound_61 : decode cX5_bookFound 61 = .ok (.goto (-57), 3) := by decide +kernel
theorem dX5_bookFound_64 : decode cX5_bookFound 64 = .ok (.iload_n 1, 1) := by decide +kernel
theorem dX5_bookFound_65 : decode cX5_bookFound 65 = .ok (.ireturn, 1) := by decide +kernel
theorem dX5_prepare_0 : decode cX5_prepare 0 = .ok (.aload_n 0, 1) := by decide +kernel
theorem dX5_prepare_1 : decode cX5_prepare 1 = .ok (.iload_n 1, 1) := by decide +kernel
theorem dX5_prepare_2 : decode cX5_prepare 2 = .ok (.putfield 86, 3) := by decide +kernel
theorem dX5_prepare_5 : decode cX5_prepare 5 = .ok (.aload_n 0, 1) := by decide +kernel
theorem dX5_prepare_6 : decode cX5_prepare 6 = .ok (.iconst 0, 1) := by decide +kernel
theorem dX5_prepare_7 : decode cX5_prepare 7 = .ok (.putfield 63, 3) := by decide +kernel
theorem dX5_prepare_10 : decode cX5_prepare 10 = .ok (.iconst 0, 1) := by decide +kernel
theorem dX5_prepare_11 : decode cX5_prepare 11 = .ok (.istore_n 2, 1) := by decide +kernel
theorem dX5_prepare_12 : decode cX5_prepare 12 = .ok (.iload_n 2, 1) := by decide +kernel
theorem dX5_prepare_13 : decode cX5_prepare 13 = .ok (.aload_n 0, 1) := by decide +kernel
theorem dX5_prepare_14 : decode cX5_prepare 14 = .ok (.getfield 39, 3) := by decide +kernel
theorem dX5_prepare_17 : decode cX5_prepare 17 = .ok (.getfield 89, 3) := by decide +kernel
theorem dX5_prepare_20 : decode cX5_prepare 20 = .ok (.if_icmp .ge 103, 3) := by decide +kernel
theorem dX5_prepare_23 : decode cX5_prepare 23 = .ok (.aload_n 0, 1) := by decide +kernel
theorem dX5_prepare_24 : decode cX5_prepare 24 = .ok (.getfield 39, 3) := by decide +kernel
theorem dX5_prepare_27 : decode cX5_prepare 27 = .ok (.getfield 91, 3) := by decide +kernel
theorem dX5_prepare_30 : decode cX5_prepare 30 = .ok (.iload_n 2, 1) := by decide +kernel
theorem dX5_prepare_31 : decode cX5_prepare 31 = .ok (.iaload, 1) := by decide +kernel
theorem dX5_prepare_32 : decode cX5_prepare 32 = .ok (.iload_n 1, 1) := by decide +kernel
theorem dX5_prepare_33 : decode cX5_prepare 33 = .ok (.if_icmp .ne 84, 3) := by decide +kernel
theorem dX5_prepare_36 : decode cX5_prepare 36 = .ok (.aload_n 0, 1) := by decide +kernel
theorem dX5_prepare_37 : decode cX5_prepare 37 = .ok (.getfield 63, 3) := by decide +kernel
theorem dX5_prepare_40 : decode cX5_prepare 40 = .ok (.iconst 4, 1) := by decide +kernel
theorem dX5_prepare_41 : decode cX5_prepare 41 = .ok (.if_icmp .ge 76, 3) := by decide +kernel
theorem dX5_prepare_44 : decode cX5_prepare 44 = .ok (.aload_n 0, 1) := by decide +kernel
theorem dX5_prepare_45 : decode cX5_prepare 45 = .ok (.getfield 9, 3) := by decide +kernel
theorem dX5_prepare_48 : decode cX5_prepare 48 = .ok (.aload_n 0, 1) := by decide +kernel
theorem dX5_prepare_49 : decode cX5_prepare 49 = .ok (.getfield 63, 3) := by decide +kernel
theorem dX5_prepare_52 : decode cX5_prepare 52 = .ok (.iload_n 2, 1) := by decide +kernel
theorem dX5_prepare_53 : decode cX5_prepare 53 = .ok (.iastore, 1) := by decide +kernel
theorem dX5_prepare_54 : decode cX5_prepare 54 = .ok (.aload_n 0, 1) := by decide +kernel
theorem dX5_prepare_55 : decode cX5_prepare 55 = .ok (.getfield 15, 3) := by decide +kernel
theorem dX5_prepare_58 : decode cX5_prepare 58 = .ok (.aload_n 0, 1) := by decide +kernel
theorem dX5_prepare_59 : decode cX5_prepare 59 = .ok (.getfield 63, 3) := by decide +kernel
theorem dX5_prepare_62 : decode cX5_prepare 62 = .ok (.aload_n 0, 1) := by decide +kernel
theorem dX5_prepare_63 : decode cX5_prepare 63 = .ok (.getfield 43, 3) := by decide +kernel
theorem dX5_prepare_66 : decode cX5_prepare 66 = .ok (.getfield 94, 3) := by decide +kernel
theorem dX5_prepare_69 : decode cX5_prepare 69 = .ok (.iload_n 2, 1) := by decide +kernel
theorem dX5_prepare_70 : decode cX5_prepare 70 = .ok (.iaload, 1) := by decide +kernel
theorem dX5_prepare_71 : decode cX5_prepare 71 = .ok (.ifCond .eq 15, 3) := by decide +kernel
theorem dX5_prepare_74 : decode cX5_prepare 74 = .ok (.aload_n 0, 1) := by decide +kernel
theorem dX5_prepare_75 : decode cX5_prepare 75 = .ok (.getfield 43, 3) := by decide +kernel
theorem dX5_prepare_78 : decode cX5_prepare 78 = .ok (.getfield 97, 3) := by decide +kernel
theorem dX5_prepare_81 : decode cX5_prepare 81 = .ok (.iload_n 2, 1) := by decide +kernel
theorem dX5_prepare_82 : decode cX5_prepare 82 = .ok (.iaload, 1) := by decide +kernel
theorem dX5_prepare_83 : decode cX5_prepare 83 = .ok (.goto 5, 3) := by decide +kernel
theorem dX5_prepare_86 : decode cX5_prepare 86 = .ok (.bipush (-2), 2) := by decide +kernel
theorem dX5_prepare_88 : decode cX5_prepare 88 = .ok (.iastore, 1) := by decide +kernel
theorem dX5_prepare_89 : decode cX5_prepare 89 = .ok (.aload_n 0, 1) := by decide +kernel
theorem dX5_prepare_90 : decode cX5_prepare 90 = .ok (.iconst 1, 1) := by decide +kernel
theorem dX5_prepare_91 : decode cX5_prepare 91 = .ok (.aload_n 0, 1) := by decide +kernel
theorem dX5_prepare_92 : decode cX5_prepare 92 = .ok (.getfield 63, 3) := by decide +kernel
theorem dX5_prepare_95 : decode cX5_prepare 95 = .ok (.ishl, 1) := by decide +kernel
theorem dX5_prepare_96 : decode cX5_prepare 96 = .ok (.aload_n 0, 1) := by decide +kernel
theorem dX5_prepare_97 : decode cX5_prepare 97 = .ok (.getfield 39, 3) := by decide +kernel
theorem dX5_prepare_100 : decode cX5_prepare 100 = .ok (.iload_n 2, 1) := by decide +kernel
theorem dX5_prepare_101 : decode cX5_prepare 101 = .ok (.invokevirtual 100, 3) := by decide +kernel
theorem dX5_prepare_104 : decode cX5_prepare 104 = .ok (.invokevirtual 103, 3) := by decide +kernel
theorem dX5_prepare_107 : decode cX5_prepare 107 = .ok (.aload_n 0, 1) := by decide +kernel
theorem dX5_prepare_108 : decode cX5_prepare 108 = .ok (.dup, 1) := by decide +kernel
theorem dX5_prepare_109 : decode cX5_prepare 109 = .ok (.getfield 63, 3) := by decide +kernel
theorem dX5_prepare_112 : decode cX5_prepare 112 = .ok (.iconst 1, 1) := by decide +kernel
theorem dX5_prepare_113 : decode cX5_prepare 113 = .ok (.iadd, 1) := by decide +kernel
theorem dX5_prepare_114 : decode cX5_prepare 114 = .ok (.putfield 63, 3) := by decide +kernel
theorem dX5_prepare_117 : decode cX5_prepare 117 = .ok (.iinc 2 1, 3) := by decide +kernel
theorem dX5_prepare_120 : decode cX5_prepare 120 = .ok (.goto (-108), 3) := by decide +kernel
theorem dX5_prepare_123 : decode cX5_prepare 123 = .ok (.iconst 0, 1) := by decide +kernel
theorem dX5_prepare_124 : decode cX5_prepare 124 = .ok (.istore_n 2, 1) := by decide +kernel
theorem dX5_prepare_125 : decode cX5_prepare 125 = .ok (.iload_n 2, 1) := by decide +kernel
theorem dX5_prepare_126 : decode cX5_prepare 126 = .ok (.aload_n 0, 1) := by decide +kernel
theorem dX5_prepare_127 : decode cX5_prepare 127 = .ok (.getfield 39, 3) := by decide +kernel
theorem dX5_prepare_130 : decode cX5_prepare 130 = .ok (.getfield 71, 3) := by decide +kernel
theorem dX5_prepare_133 : decode cX5_prepare 133 = .ok (.if_icmp .ge 24, 3) := by decide +kernel
theorem dX5_prepare_136 : decode cX5_prepare 136 = .ok (.aload_n 0, 1) := by decide +kernel
theorem dX5_prepare_137 : decode cX5_prepare 137 = .ok (.getfield 18, 3) := by decide +kernel
theorem dX5_prepare_140 : decode cX5_prepare 140 = .ok (.iload_n 2, 1) := by decide +kernel
theorem dX5_prepare_141 : decode cX5_prepare 141 = .ok (.aload_n 0, 1) := by decide +kernel
theorem dX5_prepare_142 : decode cX5_prepare 142 = .ok (.getfield 43, 3) := by decide +kernel
theorem dX5_prepare_145 : decode cX5_prepare 145 = .ok (.iload_n 2, 1) := by decide +kernel
theorem dX5_prepare_146 : decode cX5_prepare 146 = .ok (.iload_n 1, 1) := by decide +kernel
theorem dX5_prepare_147 : decode cX5_prepare 147 = .ok (.invokevirtual 106, 3) := by decide +kernel
theorem dX5_prepare_150 : decode cX5_prepare 150 = .ok (.iastore, 1) := by decide +kernel
theorem dX5_prepare_151 : decode cX5_prepare 151 = .ok (.iinc 2 1, 3) := by decide +kernel
theorem dX5_prepare_154 : decode cX5_prepare 154 = .ok (.goto (-29), 3) := by decide +kernel
theorem dX5_prepare_157 : decode cX5_prepare 157 = .ok (.return_, 1) := by decide +kernel
theorem dX5_addRoom_0 : decode cX5_addRoom 0 = .ok (.iconst 0, 1) := by decide +kernel
theorem dX5_addRoom_1 : decode cX5_addRoom 1 = .ok (.istore_n 3, 1) := by decide +kernel
theorem dX5_addRoom_2 : decode cX5_addRoom 2 = .ok (.iload_n 3, 1) := by decide +kernel
theorem dX5_addRoom_3 : decode cX5_addRoom 3 = .ok (.iload_n 1, 1) := by decide +kernel
theorem dX5_addRoom_4 : decode cX5_addRoom 4 = .ok (.if_icmp .ge 25, 3) := by decide +kernel
theorem dX5_addRoom_7 : decode cX5_addRoom 7 = .ok (.aload_n 0, 1) := by decide +kernel
theorem dX5_addRoom_8 : decode cX5_addRoom 8 = .ok (.getfield 21, 3) := by decide +kernel
theorem dX5_addRoom_11 : decode cX5_addRoom 11 = .ok (.iload_n 1, 1) := by decide +kernel
theorem dX5_addRoom_12 : decode cX5_addRoom 12 = .ok (.iload_n 3, 1) := by decide +kernel
theorem dX5_addRoom_13 : decode cX5_addRoom 13 = .ok (.iadd, 1) := by decide +kernel
theorem dX5_addRoom_14 : decode cX5_addRoom 14 = .ok (.aload_n 0, 1) := by decide +kernel
theorem dX5_addRoom_15 : decode cX5_addRoom 15 = .ok (.getfield 21, 3) := by decide +kernel
theorem dX5_addRoom_18 : decode cX5_addRoom 18 = .ok (.iload_n 3, 1) := by decide +kernel
theorem dX5_addRoom_19 : decode cX5_addRoom 19 = .ok (.iaload, 1) := by decide +kernel
theorem dX5_addRoom_20 : decode cX5_addRoom 20 = .ok (.iload_n 2, 1) := by decide +kernel
theorem dX5_addRoom_21 : decode cX5_addRoom 21 = .ok (.iadd, 1) := by decide +kernel
theorem dX5_addRoom_22 : decode cX5_addRoom 22 = .ok (.iastore, 1) := by decide +kernel
theorem dX5_addRoom_23 : decode cX5_addRoom 23 = .ok (.iinc 3 1, 3) := by decide +kernel
theorem dX5_addRoom_26 : decode cX5_addRoom 26 = .ok (.goto (-24), 3) := by decide +kernel
theorem dX5_addRoom_29 : decode cX5_addRoom 29 = .ok (.return_, 1) := by decide +kernel
theorem dX5_search_0 : decode cX5_search 0 = .ok (.aload_n 0, 1) := by decide +kernel
theorem dX5_search_1 : decode cX5_search 1 = .ok (.bipush (-2), 2) := by decide +kernel
theorem dX5_search_3 : decode cX5_search 3 = .ok (.invokevirtual 110, 3) := by decide +kernel
theorem dX5_search_6 : decode cX5_search 6 = .ok (.istore_n 1, 1) := by decide +kernel
theorem dX5_search_7 : decode cX5_search 7 = .ok (.aload_n 0, 1) := by decide +kernel
theorem dX5_search_8 : decode cX5_search 8 = .ok (.getfield 27, 3) := by decide +kernel
theorem dX5_search_11 : decode cX5_search 11 = .ok (.iconst (-1), 1) := by decide +kernel
theorem dX5_search_12 : decode cX5_search 12 = .ok (.invokestatic 113, 3) := by decide +kernel
theorem dX5_search_15 : decode cX5_search 15 = .ok (.aload_n 0, 1) := by decide +kernel
theorem dX5_search_16 : decode cX5_search 16 = .ok (.getfield 27, 3) := by decide +kernel
theorem dX5_search_19 : decode cX5_search 19 = .ok (.iconst 0, 1) := by decide +kernel
theorem dX5_search_20 : decode cX5_search 20 = .ok (.iconst 0, 1) := by decide +kernel
theorem dX5_search_21 : decode cX5_search 21 = .ok (.iastore, 1) := by decide +kernel
theorem dX5_search_22 : decode cX5_search 22 = .ok (.iconst 0, 1) := by decide +kernel
theorem dX5_search_23 : decode cX5_search 23 = .ok (.istore_n 2, 1) := by decide +kernel
theorem dX5_search_24 : decode cX5_search 24 = .ok (.iload_n 2, 1) := by decide +kernel
theorem dX5_search_25 : decode cX5_search 25 = .ok (.aload_n 0, 1) := by decide +kernel
theorem dX5_search_26 : decode cX5_search 26 = .ok (.getfield 39, 3) := by decide +kernel
theorem dX5_search_29 : decode cX5_search 29 = .ok (.getfield 71, 3) := by decide +kernel
theorem dX5_search_32 : decode cX5_search 32 = .ok (.if_icmp .ge 20, 3) := by decide +kernel
theorem dX5_search_35 : decode cX5_search 35 = .ok (.aload_n 0, 1) := by decide +kernel
theorem dX5_search_36 : decode cX5_search 36 = .ok (.iload_n 2, 1) := by decide +kernel
theorem dX5_search_37 : decode cX5_search 37 = .ok (.iload_n 1, 1) := by decide +kernel
theorem dX5_search_38 : decode cX5_search 38 = .ok (.invokevirtual 119, 3) := by decide +kernel
theorem dX5_search_41 : decode cX5_search 41 = .ok (.aload_n 0, 1) := by decide +kernel
theorem dX5_search_42 : decode cX5_search 42 = .ok (.iload_n 1, 1) := by decide +kernel
theorem dX5_search_43 : decode cX5_search 43 = .ok (.invokevirtual 122, 3) := by decide +kernel
theorem dX5_search_46 : decode cX5_search 46 = .ok (.iinc 2 1, 3) := by decide +kernel
theorem dX5_search_49 : decode cX5_search 49 = .ok (.goto (-25), 3) := by decide +kernel
theorem dX5_search_52 : decode cX5_search 52 = .ok (.iconst (-1), 1) := by decide +kernel
theorem dX5_search_53 : decode cX5_search 53 = .ok (.istore_n 2, 1) := by decide +kernel
theorem dX5_search_54 : decode cX5_search 54 = .ok (.iconst 0, 1) := by decide +kernel
theorem dX5_search_55 : decode cX5_search 55 = .ok (.istore_n 3, 1) := by decide +kernel
theorem dX5_search_56 : decode cX5_search 56 = .ok (.iload_n 3, 1) := by decide +kernel
theorem dX5_search_57 : decode cX5_search 57 = .ok (.bipush 16, 2) := by decide +kernel
theorem dX5_search_59 : decode cX5_search 59 = .ok (.if_icmp .ge 20, 3) := by decide +kernel
theorem dX5_search_62 : decode cX5_search 62 = .ok (.iload_n 2, 1) := by decide +kernel
theorem dX5_search_63 : decode cX5_search 63 = .ok (.aload_n 0, 1) := by decide +kernel
theorem dX5_search_64 : decode cX5_search 64 = .ok (.getfield 27, 3) := by decide +kernel
theorem dX5_search_67 : decode cX5_search 67 = .ok (.iload_n 3, 1) := by decide +kernel
theorem dX5_search_68 : decode cX5_search 68 = .ok (.iaload, 1) := by decide +kernel
theorem dX5_search_69 : decode cX5_search 69 = .ok (.invokestatic 125, 3) := by decide +kernel
theorem dX5_search_72 : decode cX5_search 72 = .ok (.istore_n 2, 1) := by decide +kernel
theorem dX5_search_73 : decode cX5_search 73 = .ok (.iinc 3 1, 3) := by decide +kernel
theorem dX5_search_76 : decode cX5_search 76 = .ok (.goto (-20), 3) := by decide +kernel
theorem dX5_search_79 : decode cX5_search 79 = .ok (.iload_n 2, 1) := by decide +kernel
theorem dX5_search_80 : decode cX5_search 80 = .ok (.ireturn, 1) := by decide +kernel
theorem dX5_placesWith_0 : decode cX5_placesWith 0 = .ok (.iconst 0, 1) := by decide +kernel
theorem dX5_placesWith_1 : decode cX5_placesWith 1 = .ok (.istore_n 2, 1) := by decide +kernel
theorem dX5_placesWith_2 : decode cX5_placesWith 2 = .ok (.iconst 0, 1) := by decide +kernel
theorem dX5_placesWith_3 : decode cX5_placesWith 3 = .ok (.istore_n 3, 1) := by decide +kernel
theorem dX5_placesWith_4 : decode cX5_placesWith 4 = .ok (.iload_n 3, 1) := by decide +kernel
theorem dX5_placesWith_5 : decode cX5_placesWith 5 = .ok (.aload_n 0, 1) := by decide +kernel
theorem dX5_placesWith_6 : decode cX5_placesWith 6 = .ok (.getfield 63, 3) := by decide +kernel
theorem dX5_placesWith_9 : decode cX5_placesWith 9 = .ok (.if_icmp .ge 25, 3) := by decide +kernel
theorem dX5_placesWith_12 : decode cX5_placesWith 12 = .ok (.aload_n 0, 1) := by decide +kernel
theorem dX5_placesWith_13 : decode cX5_placesWith 13 = .ok (.getfield 15, 3) := by decide +kernel
theorem dX5_placesWith_16 : decode cX5_placesWith 16 = .ok (.iload_n 3, 1) := by decide +kernel
theorem dX5_placesWith_17 : decode cX5_placesWith 17 = .ok (.iaload, 1) := by decide +kernel
theorem dX5_placesWith_18 : decode cX5_placesWith 18 = .ok (.iload_n 1, 1) := by decide +kernel
theorem dX5_placesWith_19 : decode cX5_placesWith 19 = .ok (.if_icmp .ne 9, 3) := by decide +kernel
theorem dX5_placesWith_22 : decode cX5_placesWith 22 = .ok (.iload_n 2, 1) := by decide +kernel
theorem dX5_placesWith_23 : decode cX5_placesWith 23 = .ok (.iconst 1, 1) := by decide +kernel
theorem dX5_placesWith_24 : decode cX5_placesWith 24 = .ok (.iload_n 3, 1) := by decide +kernel
theorem dX5_placesWith_25 : decode cX5_placesWith 25 = .ok (.ishl, 1) := by decide +kernel
theorem dX5_placesWith_26 : decode cX5_placesWith 26 = .ok (.ior, 1) := by decide +kernel
theorem dX5_placesWith_27 : decode cX5_placesWith 27 = .ok (.istore_n 2, 1) := by decide +kernel
theorem dX5_placesWith_28 : decode cX5_placesWith 28 = .ok (.iinc 3 1, 3) := by decide +kernel
theorem dX5_placesWith_31 : decode cX5_placesWith 31 = .ok (.goto (-27), 3) := by decide +kernel
theorem dX5_placesWith_34 : decode cX5_placesWith 34 = .ok (.iload_n 2, 1) := by decide +kernel
theorem dX5_placesWith_35 : decode cX5_placesWith 35 = .ok (.ireturn, 1) := by decide +kernel
theorem dX5_findFilmGains_0 : decode cX5_findFilmGains 0 = .ok (.aload_n 0, 1) := by decide +kernel
theorem dX5_findFilmGains_1 : decode cX5_findFilmGains 1 = .ok (.iload_n 1, 1) := by decide +kernel
theorem dX5_findFilmGains_2 : decode cX5_findFilmGains 2 = .ok (.invokevirtual 110, 3) := by decide +kernel
theorem dX5_findFilmGains_5 : decode cX5_findFilmGains 5 = .ok (.istore_n 3, 1) := by decide +kernel
theorem dX5_findFilmGains_6 : decode cX5_findFilmGains 6 = .ok (.aload_n 0, 1) := by decide +kernel
theorem dX5_findFilmGains_7 : decode cX5_findFilmGains 7 = .ok (.getfield 43, 3) := by decide +kernel
theorem dX5_findFilmGains_10 : decode cX5_findFilmGains 10 = .ok (.getfield 130, 3) := by decide +kernel
theorem dX5_findFilmGains_13 : decode cX5_findFilmGains 13 = .ok (.iload_n 1, 1) := by decide +kernel
theorem dX5_findFilmGains_14 : decode cX5_findFilmGains 14 = .ok (.iaload, 1) := by decide +kernel
theorem dX5_findFilmGains_15 : decode cX5_findFilmGains 15 = .ok (.bipush 7, 2) := by decide +kernel
theorem dX5_findFilmGains_17 : decode cX5_findFilmGains 17 = .ok (.imul, 1) := by decide +kernel
theorem dX5_findFilmGains_18 : decode cX5_findFilmGains 18 = .ok (.istore 4, 2) := by decide +kernel
theorem dX5_findFilmGains_20 : decode cX5_findFilmGains 20 = .ok (.iconst 0, 1) := by decide +kernel
theorem dX5_findFilmGains_21 : decode cX5_findFilmGains 21 = .ok (.istore 5, 2) := by decide +kernel
theorem dX5_findFilmGains_23 : decode cX5_findFilmGains 23 = .ok (.iload 5, 2) := by decide +kernel
theorem dX5_findFilmGains_25 : decode cX5_findFilmGains 25 = .ok (.iload_n 2, 1) := by decide +kernel
theorem dX5_findFilmGains_26 : decode cX5_findFilmGains 26 = .ok (.if_icmp .gt 108, 3) := by decide +kernel
theorem dX5_findFilmGains_29 : decode cX5_findFilmGains 29 = .ok (.iload 5, 2) := by decide +kernel
theorem dX5_findFilmGains_31 : decode cX5_findFilmGains 31 = .ok (.iload_n 2, 1) := by decide +kernel
theorem dX5_findFilmGains_32 : decode cX5_findFilmGains 32 = .ok (.iconst (-1), 1) := by decide +kernel
theorem dX5_findFilmGains_33 : decode cX5_findFilmGains 33 = .ok (.ixor, 1) := by decide +kernel
theorem dX5_findFilmGains_34 : decode cX5_findFilmGains 34 = .ok (.iand, 1) := by decide +kernel
theorem dX5_findFilmGains_35 : decode cX5_findFilmGains 35 = .ok (.ifCond .ne 93, 3) := by decide +kernel
theorem dX5_findFilmGains_38 : decode cX5_findFilmGains 38 = .ok (.iload_n 3, 1) := by decide +kernel
theorem dX5_findFilmGains_39 : decode cX5_findFilmGains 39 = .ok (.iload 5, 2) := by decide +kernel
theorem dX5_findFilmGains_41 : decode cX5_findFilmGains 41 = .ok (.ior, 1) := by decide +kernel
theorem dX5_findFilmGains_42 : decode cX5_findFilmGains 42 = .ok (.istore 6, 2) := by decide +kernel
theorem dX5_findFilmGains_44 : decode cX5_findFilmGains 44 = .ok (.iload 4, 2) := by decide +kernel
theorem dX5_findFilmGains_46 : decode cX5_findFilmGains 46 = .ok (.aload_n 0, 1) := by decide +kernel
theorem dX5_findFilmGains_47 : decode cX5_findFilmGains 47 = .ok (.getfield 21, 3) := by decide +kernel
theorem dX5_findFilmGains_50 : decode cX5_findFilmGains 50 = .ok (.iload 6, 2) := by decide +kernel
theorem dX5_findFilmGains_52 : decode cX5_findFilmGains 52 = .ok (.iaload, 1) := by decide +kernel
theorem dX5_findFilmGains_53 : decode cX5_findFilmGains 53 = .ok (.bipush 7, 2) := by decide +kernel
theorem dX5_findFilmGains_55 : decode cX5_findFilmGains 55 = .ok (.imul, 1) := by decide +kernel
theorem dX5_findFilmGains_56 : decode cX5_findFilmGains 56 = .ok (.invokestatic 133, 3) := by decide +kernel
theorem dX5_findFilmGains_59 : decode cX5_findFilmGains 59 = .ok (.aload_n 0, 1) := by decide +kernel
theorem dX5_findFilmGains_60 : decode cX5_findFilmGains 60 = .ok (.getfield 39, 3) := by decide +kernel
theorem dX5_findFilmGains_63 : decode cX5_findFilmGains 63 = .ok (.getfield 136, 3) := by decide +kernel
theorem dX5_findFilmGains_66 : decode cX5_findFilmGains 66 = .ok (.aload_n 0, 1) := by decide +kernel
theorem dX5_findFilmGains_67 : decode cX5_findFilmGains 67 = .ok (.getfield 86, 3) := by decide +kernel
theorem dX5_findFilmGains_70 : decode cX5_findFilmGains 70 = .ok (.iaload, 1) := by decide +kernel
theorem dX5_findFilmGains_71 : decode cX5_findFilmGains 71 = .ok (.imul, 1) := by decide +kernel
theorem dX5_findFilmGains_72 : decode cX5_findFilmGains 72 = .ok (.istore 7, 2) := by decide +kernel
theorem dX5_findFilmGains_74 : decode cX5_findFilmGains 74 = .ok (.iload 6, 2) := by decide +kernel
theorem dX5_findFilmGains_76 : decode cX5_findFilmGains 76 = .ok (.invokestatic 139, 3) := by decide +kernel
theorem dX5_findFilmGains_79 : decode cX5_findFilmGains 79 = .ok (.aload_n 0, 1) := by decide +kernel
theorem dX5_findFilmGains_80 : decode cX5_findFilmGains 80 = .ok (.getfield 18, 3) := by decide +kernel
theorem dX5_findFilmGains_83 : decode cX5_findFilmGains 83 = .ok (.iload_n 1, 1) := by decide +kernel
theorem dX5_findFilmGains_84 : decode cX5_findFilmGains 84 = .ok (.iaload, 1) := by decide +kernel
theorem dX5_findFilmGains_85 : decode cX5_findFilmGains 85 = .ok (.if_icmp .gt 7, 3) := by decide +kernel
theorem dX5_findFilmGains_88 : decode cX5_findFilmGains 88 = .ok (.iconst 1, 1) := by decide +kernel
theorem dX5_findFilmGains_89 : decode cX5_findFilmGains 89 = .ok (.goto 4, 3) := by decide +kernel
theorem dX5_findFilmGains_92 : decode cX5_findFilmGains 92 = .ok (.iconst 0, 1) := by decide +kernel
theorem dX5_findFilmGains_93 : decode cX5_findFilmGains 93 = .ok (.istore 8, 2) := by decide +kernel
theorem dX5_findFilmGains_95 : decode cX5_findFilmGains 95 = .ok (.aload_n 0, 1) := by decide +kernel
theorem dX5_findFilmGains_96 : decode cX5_findFilmGains 96 = .ok (.getfield 24, 3) := by decide +kernel
theorem dX5_findFilmGains_99 : decode cX5_findFilmGains 99 = .ok (.iload 5, 2) := by decide +kernel
theorem dX5_findFilmGains_101 : decode cX5_findFilmGains 101 = .ok (.iload 8, 2) := by decide +kernel
theorem dX5_findFilmGains_103 : decode cX5_findFilmGains 103 = .ok (.ifCond .eq 23, 3) := by decide +kernel
theorem dX5_findFilmGains_106 : decode cX5_findFilmGains 106 = .ok (.iload 7, 2) := by decide +kernel
theorem dX5_findFilmGains_108 : decode cX5_findFilmGains 108 = .ok (.aload_n 0, 1) := by decide +kernel
theorem dX5_findFilmGains_109 : decode cX5_findFilmGains 109 = .ok (.getfield 47, 3) := by decide +kernel
theorem dX5_findFilmGains_112 : decode cX5_findFilmGains 112 = .ok (.aload_n 0, 1) := by decide +kernel
theorem dX5_findFilmGains_113 : decode cX5_findFilmGains 113 = .ok (.getfield 86, 3) := by decide +kernel
theorem dX5_findFilmGains_116 : decode cX5_findFilmGains 116 = .ok (.iload_n 1, 1) := by decide +kernel
theorem dX5_findFilmGains_117 : decode cX5_findFilmGains 117 = .ok (.iload 7, 2) := by decide +kernel
theorem dX5_findFilmGains_119 : decode cX5_findFilmGains 119 = .ok (.invokevirtual 144, 3) := by decide +kernel
theorem dX5_findFilmGains_122 : decode cX5_findFilmGains 122 = .ok (.isub, 1) := by decide +kernel
theorem dX5_findFilmGains_123 : decode cX5_findFilmGains 123 = .ok (.goto 4, 3) := by decide +kernel
theorem dX5_findFilmGains_126 : decode cX5_findFilmGains 126 = .ok (.iconst (-1), 1) := by decide +kernel
theorem dX5_findFilmGains_127 : decode cX5_findFilmGains 127 = .ok (.iastore, 1) := by decide +kernel
theorem dX5_findFilmGains_128 : decode cX5_findFilmGains 128 = .ok (.iinc 5 1, 3) := by decide +kernel
theorem dX5_findFilmGains_131 : decode cX5_findFilmGains 131 = .ok (.goto (-108), 3) := by decide +kernel
theorem dX5_findFilmGains_134 : decode cX5_findFilmGains 134 = .ok (.return_, 1) := by decide +kernel
theorem dX5_addFilm_0 : decode cX5_addFilm 0 = .ok (.iload_n 1, 1) := by decide +kernel
theorem dX5_addFilm_1 : decode cX5_addFilm 1 = .ok (.istore_n 2, 1) := by decide +kernel
theorem dX5_addFilm_2 : decode cX5_addFilm 2 = .ok (.iload_n 2, 1) := by decide +kernel
theorem dX5_addFilm_3 : decode cX5_addFilm 3 = .ok (.ifCond .lt 28, 3) := by decide +kernel
theorem dX5_addFilm_6 : decode cX5_addFilm 6 = .ok (.iload_n 2, 1) := by decide +kernel
theorem dX5_addFilm_7 : decode cX5_addFilm 7 = .ok (.iload_n 1, 1) := by decide +kernel
theorem dX5_addFilm_8 : decode cX5_addFilm 8 = .ok (.iconst (-1), 1) := by decide +kernel
theorem dX5_addFilm_9 : decode cX5_addFilm 9 = .ok (.ixor, 1) := by decide +kernel
theorem dX5_addFilm_10 : decode cX5_addFilm 10 = .ok (.iand, 1) := by decide +kernel
theorem dX5_addFilm_11 : decode cX5_addFilm 11 = .ok (.ifCond .ne 14, 3) := by decide +kernel
theorem dX5_addFilm_14 : decode cX5_addFilm 14 = .ok (.aload_n 0, 1) := by decide +kernel
theorem dX5_addFilm_15 : decode cX5_addFilm 15 = .ok (.getfield 27, 3) := by decide +kernel
theorem dX5_addFilm_18 : decode cX5_addFilm 18 = .ok (.iload_n 2, 1) := by decide +kernel
theorem dX5_addFilm_19 : decode cX5_addFilm 19 = .ok (.aload_n 0, 1) := by decide +kernel
theorem dX5_addFilm_20 : decode cX5_addFilm 20 = .ok (.iload_n 2, 1) := by decide +kernel
theorem dX5_addFilm_21 : decode cX5_addFilm 21 = .ok (.invokevirtual 150, 3) := by decide +kernel
theorem dX5_addFilm_24 : decode cX5_addFilm 24 = .ok (.iastore, 1) := by decide +kernel
theorem dX5_addFilm_25 : decode cX5_addFilm 25 = .ok (.iinc 2 (-1), 3) := by decide +kernel
theorem dX5_addFilm_28 : decode cX5_addFilm 28 = .ok (.goto (-26), 3) := by decide +kernel
theorem dX5_addFilm_31 : decode cX5_addFilm 31 = .ok (.return_, 1) := by decide +kernel
theorem dX5_bestParting_0 : decode cX5_bestParting 0 = .ok (.iconst (-1), 1) := by decide +kernel
theorem dX5_bestParting_1 : decode cX5_bestParting 1 = .ok (.istore_n 2, 1) := by decide +kernel
theorem dX5_bestParting_2 : decode cX5_bestParting 2 = .ok (.iconst 0, 1) := by decide +kernel
theorem dX5_bestParting_3 : decode cX5_bestParting 3 = .ok (.istore_n 3, 1) := by decide +kernel
theorem dX5_bestParting_4 : decode cX5_bestParting 4 = .ok (.iload_n 3, 1) := by decide +kernel
theorem dX5_bestParting_5 : decode cX5_bestParting 5 = .ok (.iload_n 1, 1) := by decide +kernel
theorem dX5_bestParting_6 : decode cX5_bestParting 6 = .ok (.if_icmp .gt 57, 3) := by decide +kernel
theorem dX5_bestParting_9 : decode cX5_bestParting 9 = .ok (.iload_n 3, 1) := by decide +kernel
theorem dX5_bestParting_10 : decode cX5_bestParting 10 = .ok (.iload_n 1, 1) := by decide +kernel
theorem dX5_bestParting_11 : decode cX5_bestParting 11 = .ok (.iconst (-1), 1) := by decide +kernel
theorem dX5_bestParting_12 : decode cX5_bestParting 12 = .ok (.ixor, 1) := by decide +kernel
theorem dX5_bestParting_13 : decode cX5_bestParting 13 = .ok (.iand, 1) := by decide +kernel
theorem dX5_bestParting_14 : decode cX5_bestParting 14 = .ok (.ifCond .ne 43, 3) := by decide +kernel
theorem dX5_bestParting_17 : decode cX5_bestParting 17 = .ok (.aload_n 0, 1) := by decide +kernel
theorem dX5_bestParting_18 : decode cX5_bestParting 18 = .ok (.getfield 24, 3) := by decide +kernel
theorem dX5_bestParting_21 : decode cX5_bestParting 21 = .ok (.iload_n 3, 1) := by decide +kernel
theorem dX5_bestParting_22 : decode cX5_bestParting 22 = .ok (.iaload, 1) := by decide +kernel
theorem dX5_bestParting_23 : decode cX5_bestParting 23 = .ok (.ifCond .lt 34, 3) := by decide +kernel
theorem dX5_bestParting_26 : decode cX5_bestParting 26 = .ok (.aload_n 0, 1) := by decide +kernel
theorem dX5_bestParting_27 : decode cX5_bestParting 27 = .ok (.getfield 27, 3) := by decide +kernel
theorem dX5_bestParting_30 : decode cX5_bestParting 30 = .ok (.iload_n 1, 1) := by decide +kernel
theorem dX5_bestParting_31 : decode cX5_bestParting 31 = .ok (.iload_n 3, 1) := by decide +kernel
theorem dX5_bestParting_32 : decode cX5_bestParting 32 = .ok (.ixor, 1) := by decide +kernel
theorem dX5_bestParting_33 : decode cX5_bestParting 33 = .ok (.iaload, 1) := by decide +kernel
theorem dX5_bestParting_34 : decode cX5_bestParting 34 = .ok (.ifCond .lt 23, 3) := by decide +kernel
theorem dX5_bestParting_37 : decode cX5_bestParting 37 = .ok (.iload_n 2, 1) := by decide +kernel
theorem dX5_bestParting_38 : decode cX5_bestParting 38 = .ok (.aload_n 0, 1) := by decide +kernel
theorem dX5_bestParting_39 : decode cX5_bestParting 39 = .ok (.getfield 24, 3) := by decide +kernel
theorem dX5_bestParting_42 : decode cX5_bestParting 42 = .ok (.iload_n 3, 1) := by decide +kernel
theorem dX5_bestParting_43 : decode cX5_bestParting 43 = .ok (.iaload, 1) := by decide +kernel
theorem dX5_bestParting_44 : decode cX5_bestParting 44 = .ok (.aload_n 0, 1) := by decide +kernel
theorem dX5_bestParting_45 : decode cX5_bestParting 45 = .ok (.getfield 27, 3) := by decide +kernel
theorem dX5_bestParting_48 : decode cX5_bestParting 48 = .ok (.iload_n 1, 1) := by decide +kernel
theorem dX5_bestParting_49 : decode cX5_bestParting 49 = .ok (.iload_n 3, 1) := by decide +kernel
theorem dX5_bestParting_50 : decode cX5_bestParting 50 = .ok (.ixor, 1) := by decide +kernel
theorem dX5_bestParting_51 : decode cX5_bestParting 51 = .ok (.iaload, 1) := by decide +kernel
theorem dX5_bestParting_52 : decode cX5_bestParting 52 = .ok (.iadd, 1) := by decide +kernel
theorem dX5_bestParting_53 : decode cX5_bestParting 53 = .ok (.invokestatic 125, 3) := by decide +kernel
theorem dX5_bestParting_56 : decode cX5_bestParting 56 = .ok (.istore_n 2, 1) := by decide +kernel
theorem dX5_bestParting_57 : decode cX5_bestParting 57 = .ok (.iinc 3 1, 3) := by decide +kernel
theorem dX5_bestParting_60 : decode cX5_bestParting 60 = .ok (.goto (-56), 3) := by decide +kernel
theorem dX5_bestParting_63 : decode cX5_bestParting 63 = .ok (.iload_n 2, 1) := by decide +kernel
theorem dX5_bestParting_64 : decode cX5_bestParting 64 = .ok (.ireturn, 1) := by decide +kernel
theorem dX7_init_0 : decode cX7_init 0 = .ok (.aload_n 0, 1) := by decide +kernel
theorem dX7_init_1 : decode cX7_init 1 = .ok (.invokespecial 3, 3) := by decide +kernel
theorem dX7_init_4 : decode cX7_init 4 = .ok (.aload_n 0, 1) := by decide +kernel
theorem dX7_init_5 : decode cX7_init 5 = .ok (.aload_n 1, 1) := by decide +kernel
theorem dX7_init_6 : decode cX7_init 6 = .ok (.putfield 9, 3) := by decide +kernel
theorem dX7_init_9 : decode cX7_init 9 = .ok (.aload_n 0, 1) := by decide +kernel
theorem dX7_init_10 : decode cX7_init 10 = .ok (.aload_n 2, 1) := by decide +kernel
theorem dX7_init_11 : decode cX7_init 11 = .ok (.putfield 15, 3) := by decide +kernel
theorem dX7_init_14 : decode cX7_init 14 = .ok (.aload_n 0, 1) := by decide +kernel
theorem dX7_init_15 : decode cX7_init 15 = .ok (.aload_n 3, 1) := by decide +kernel
theorem dX7_init_16 : decode cX7_init 16 = .ok (.putfield 19, 3) := by decide +kernel
theorem dX7_init_19 : decode cX7_init 19 = .ok (.aload_n 0, 1) := by decide +kernel
theorem dX7_init_20 : decode cX7_init 20 = .ok (.aload 4, 2) := by decide +kernel
theorem dX7_init_22 : decode cX7_init 22 = .ok (.putfield 23, 3) := by decide +kernel
theorem dX7_init_25 : decode cX7_init 25 = .ok (.return_, 1) := by decide +kernel
theorem dX8_init_0 : decode cX8_init 0 = .ok (.aload_n 0, 1) := by decide +kernel
theorem dX8_init_1 : decode cX8_init 1 = .ok (.invokespecial 3, 3) := by decide +kernel
theorem dX8_init_4 : decode cX8_init 4 = .ok (.aload_n 0, 1) := by decide +kernel
theorem dX8_init_5 : decode cX8_init 5 = .ok (.iconst 4, 1) := by decide +kernel
theorem dX8_init_6 : decode cX8_init 6 = .ok (.newarray .int, 2) := by decide +kernel
theorem dX8_init_8 : decode cX8_init 8 = .ok (.putfield 9, 3) := by decide +kernel
theorem dX8_init_11 : decode cX8_init 11 = .ok (.aload_n 0, 1) := by decide +kernel
theorem dX8_init_12 : decode cX8_init 12 = .ok (.bipush 10, 2) := by decide +kernel
theorem dX8_init_14 : decode cX8_init 14 = .ok (.newarray .int, 2) := by decide +kernel
theorem dX8_init_16 : decode cX8_init 16 = .ok (.putfield 15, 3) := by decide +kernel
theorem dX8_init_19 : decode cX8_init 19 = .ok (.aload_n 0, 1) := by decide +kernel
theorem dX8_init_20 : decode cX8_init 20 = .ok (.bipush 30, 2) := by decide +kernel
theorem dX8_init_22 : decode cX8_init 22 = .ok (.newarray .int, 2) := by decide +kernel
theorem dX8_init_24 : decode cX8_init 24 = .ok (.putfield 18, 3) := by decide +kernel
theorem dX8_init_27 : decode cX8_init 27 = .ok (.aload_n 0, 1) := by decide +kernel
theorem dX8_init_28 : decode cX8_init 28 = .ok (.bipush 10, 2) := by decide +kernel
theorem dX8_init_30 : decode cX8_init 30 = .ok (.newarray .int, 2) := by decide +kernel
theorem dX8_init_32 : decode cX8_init 32 = .ok (.putfield 21, 3) := by decide +kernel
theorem dX8_init_35 : decode cX8_init 35 = .ok (.aload_n 0, 1) := by decide +kernel
theorem dX8_init_36 : decode cX8_init 36 = .ok (.bipush 10, 2) := by decide +kernel
theorem dX8_init_38 : decode cX8_init 38 = .ok (.newarray .int, 2) := by decide +kernel
theorem dX8_init_40 : decode cX8_init 40 = .ok (.putfield 24, 3) := by decide +kernel
theorem dX8_init_43 : decode cX8_init 43 = .ok (.aload_n 0, 1) := by decide +kernel
theorem dX8_init_44 : decode cX8_init 44 = .ok (.bipush 10, 2) := by decide +kernel
theorem dX8_init_46 : decode cX8_init 46 = .ok (.newarray .int, 2) := by decide +kernel
theorem dX8_init_48 : decode cX8_init 48 = .ok (.putfield 27, 3) := by decide +kernel
theorem dX8_init_51 : decode cX8_init 51 = .ok (.aload_n 0, 1) := by decide +kernel
theorem dX8_init_52 : decode cX8_init 52 = .ok (.bipush 10, 2) := by decide +kernel
theorem dX8_init_54 : decode cX8_init 54 = .ok (.newarray .int, 2) := by decide +kernel
theorem dX8_init_56 : decode cX8_init 56 = .ok (.putfield 30, 3) := by decide +kernel
theorem dX8_init_59 : decode cX8_init 59 = .ok (.aload_n 0, 1) := by decide +kernel
theorem dX8_init_60 : decode cX8_init 60 = .ok (.bipush 6, 2) := by decide +kernel
theorem dX8_init_62 : decode cX8_init 62 = .ok (.newarray .int, 2) := by decide +kernel
theorem dX8_init_64 : decode cX8_init 64 = .ok (.putfield 33, 3) := by decide +kernel
theorem dX8_init_67 : decode cX8_init 67 = .ok (.aload_n 0, 1) := by decide +kernel
theorem dX8_init_68 : decode cX8_init 68 = .ok (.bipush 6, 2) := by decide +kernel
theorem dX8_init_70 : decode cX8_init 70 = .ok (.newarray .int, 2) := by decide +kernel
theorem dX8_init_72 : decode cX8_init 72 = .ok (.putfield 36, 3) := by decide +kernel
theorem dX8_init_75 : decode cX8_init 75 = .ok (.aload_n 0, 1) := by decide +kernel
theorem dX8_init_76 : decode cX8_init 76 = .ok (.bipush 6, 2) := by decide +kernel
theorem dX8_init_78 : decode cX8_init 78 = .ok (.newarray .int, 2) := by decide +kernel
theorem dX8_init_80 : decode cX8_init 80 = .ok (.putfield 39, 3) := by decide +kernel
theorem dX8_init_83 : decode cX8_init 83 = .ok (.aload_n 0, 1) := by decide +kernel
theorem dX8_init_84 : decode cX8_init 84 = .ok (.bipush 24, 2) := by decide +kernel
theorem dX8_init_86 : decode cX8_init 86 = .ok (.newarray .int, 2) := by decide +kernel
theorem dX8_init_88 : decode cX8_init 88 = .ok (.putfield 42, 3) := by decide +kernel
theorem dX8_init_91 : decode cX8_init 91 = .ok (.aload_n 0, 1) := by decide +kernel
theorem dX8_init_92 : decode cX8_init 92 = .ok (.iconst 4, 1) := by decide +kernel
theorem dX8_init_93 : decode cX8_init 93 = .ok (.newarray .int, 2) := by decide +kernel
theorem dX8_init_95 : decode cX8_init 95 = .ok (.putfield 45, 3) := by decide +kernel
theorem dX8_init_98 : decode cX8_init 98 = .ok (.aload_n 0, 1) := by decide +kernel
theorem dX8_init_99 : decode cX8_init 99 = .ok (.bipush 100, 2) := by decide +kernel
theorem dX8_init_101 : decode cX8_init 101 = .ok (.newarray .int, 2) := by decide +kernel
theorem dX8_init_103 : decode cX8_init 103 = .ok (.putfield 48, 3) := by decide +kernel
theorem dX8_init_106 : decode cX8_init 106 = .ok (.return_, 1) := by decide +kernel
theorem dX8_clear_0 : decode cX8_clear 0 = .ok (.aload_n 0, 1) := by decide +kernel
theorem dX8_clear_1 : decode cX8_clear 1 = .ok (.iconst 0, 1) := by decide +kernel
theorem dX8_clear_2 : decode cX8_clear 2 = .ok (.putfield 51, 3) := by decide +kernel
theorem dX8_clear_5 : decode cX8_clear 5 = .ok (.aload_n 0, 1) := by decide +kernel
theorem dX8_clear_6 : decode cX8_clear 6 = .ok (.iconst 0, 1) := by decide +kernel
theorem dX8_clear_7 : decode cX8_clear 7 = .ok (.putfield 55, 3) := by decide +kernel
theorem dX8_clear_10 : decode cX8_clear 10 = .ok (.aload_n 0, 1) := by decide +kernel
theorem dX8_clear_11 : decode cX8_clear 11 = .ok (.iconst 0, 1) := by decide +kernel
theorem dX8_clear_12 : decode cX8_clear 12 = .ok (.putfield 58, 3) := by decide +kernel
theorem dX8_clear_15 : decode cX8_clear 15 = .ok (.aload_n 0, 1) := by decide +kernel
theorem dX8_clear_16 : decode cX8_clear 16 = .ok (.getfield 9, 3) := by decide +kernel
theorem dX8_clear_19 : decode cX8_clear 19 = .ok (.iconst 0, 1) := by decide +kernel
theorem dX8_clear_20 : decode cX8_clear 20 = .ok (.invokestatic 61, 3) := by decide +kernel
theorem dX8_clear_23 : decode cX8_clear 23 = .ok (.aload_n 0, 1) := by decide +kernel
theorem dX8_clear_24 : decode cX8_clear 24 = .ok (.getfield 15, 3) := by decide +kernel
theorem dX8_clear_27 : decode cX8_clear 27 = .ok (.iconst 0, 1) := by decide +kernel
theorem dX8_clear_28 : decode cX8_clear 28 = .ok (.invokestatic 61, 3) := by decide +kernel
theorem dX8_clear_31 : decode cX8_clear 31 = .ok (.aload_n 0, 1) := by decide +kernel
theorem dX8_clear_32 : decode cX8_clear 32 = .ok (.getfield 18, 3) := by decide +kernel
theorem dX8_clear_35 : decode cX8_clear 35 = .ok (.iconst 0, 1) := by decide +kernel
theorem dX8_clear_36 : decode cX8_clear 36 = .ok (.invokestatic 61, 3) := by decide +kernel
theorem dX8_clear_39 : decode cX8_clear 39 = .ok (.aload_n 0, 1) := by decide +kernel
theorem dX8_clear_40 : decode cX8_clear 40 = .ok (.getfield 21, 3) := by decide +kernel
theorem dX8_clear_43 : decode cX8_clear 43 = .ok (.iconst (-1), 1) := by decide +kernel
theorem dX8_clear_44 : decode cX8_clear 44 = .ok (.invokestatic 61, 3) := by decide +kernel
theorem dX8_clear_47 : decode cX8_clear 47 = .ok (.aload_n 0, 1) := by decide +kernel
theorem dX8_clear_48 : decode cX8_clear 48 = .ok (.getfield 24, 3) := by decide +kernel
theorem dX8_clear_51 : decode cX8_clear 51 = .ok (.iconst (-1), 1) := by decide +kernel
theorem dX8_clear_52 : decode cX8_clear 52 = .ok (.invokestatic 61, 3) := by decide +kernel
theorem dX8_clear_55 : decode cX8_clear 55 = .ok (.aload_n 0, 1) := by decide +kernel
theorem dX8_clear_56 : decode cX8_clear 56 = .ok (.getfield 27, 3) := by decide +kernel
theorem dX8_clear_59 : decode cX8_clear 59 = .ok (.iconst 0, 1) := by decide +kernel
theorem dX8_clear_60 : decode cX8_clear 60 = .ok (.invokestatic 61, 3) := by decide +kernel
theorem dX8_clear_63 : decode cX8_clear 63 = .ok (.aload_n 0, 1) := by decide +kernel
theorem dX8_clear_64 : decode cX8_clear 64 = .ok (.getfield 30, 3) := by decide +kernel
theorem dX8_clear_67 : decode cX8_clear 67 = .ok (.iconst 0, 1) := by decide +kernel
theorem dX8_clear_68 : decode cX8_clear 68 = .ok (.invokestatic 61, 3) := by decide +kernel
theorem dX8_clear_71 : decode cX8_clear 71 = .ok (.aload_n 0, 1) := by decide +kernel
theorem dX8_clear_72 : decode cX8_clear 72 = .ok (.getfield 33, 3) := by decide +kernel
theorem dX8_clear_75 : decode cX8_clear 75 = .ok (.iconst (-1), 1) := by decide +kernel
theorem dX8_clear_76 : decode cX8_clear 76 = .ok (.invokestatic 61, 3) := by decide +kernel
theorem dX8_clear_79 : decode cX8_clear 79 = .ok (.aload_n 0, 1) := by decide +kernel
theorem dX8_clear_80 : decode cX8_clear 80 = .ok (.getfield 36, 3) := by decide +kernel
theorem dX8_clear_83 : decode cX8_clear 83 = .ok (.iconst 0, 1) := by decide +kernel
theorem dX8_clear_84 : decode cX8_clear 84 = .ok (.invokestatic 61, 3) := by decide +kernel
theorem dX8_clear_87 : decode cX8_clear 87 = .ok (.aload_n 0, 1) := by decide +kernel
theorem dX8_clear_88 : decode cX8_clear 88 = .ok (.getfield 39, 3) := by decide +kernel
theorem dX8_clear_91 : decode cX8_clear 91 = .ok (.iconst 0, 1) := by decide +kernel
theorem dX8_clear_92 : decode cX8_clear 92 = .ok (.invokestatic 61, 3) := by decide +kernel
theorem dX8_clear_95 : decode cX8_clear 95 = .ok (.aload_n 0, 1) := by decide +kernel
theorem dX8_clear_96 : decode cX8_clear 96 = .ok (.getfield 42, 3) := by decide +kernel
theorem dX8_clear_99 : decode cX8_clear 99 = .ok (.iconst 0, 1) := by decide +kernel
theorem dX8_clear_100 : decode cX8_clear 100 = .ok (.invokestatic 61, 3) := by decide +kernel
theorem dX8_clear_103 : decode cX8_clear 103 = .ok (.aload_n 0, 1) := by decide +kernel
theorem dX8_clear_104 : decode cX8_clear 104 = .ok (.getfield 45, 3) := by decide +kernel
theorem dX8_clear_107 : decode cX8_clear 107 = .ok (.iconst 0, 1) := by decide +kernel
theorem dX8_clear_108 : decode cX8_clear 108 = .ok (.invokestatic 61, 3) := by decide +kernel
theorem dX8_clear_111 : decode cX8_clear 111 = .ok (.aload_n 0, 1) := by decide +kernel
theorem dX8_clear_112 : decode cX8_clear 112 = .ok (.getfield 48, 3) := by decide +kernel
theorem dX8_clear_115 : decode cX8_clear 115 = .ok (.iconst 0, 1) := by decide +kernel
theorem dX8_clear_116 : decode cX8_clear 116 = .ok (.invokestatic 61, 3) := by decide +kernel
theorem dX8_clear_119 : decode cX8_clear 119 = .ok (.return_, 1) := by decide +kernel
theorem dX8_copyFrom_0 : decode cX8_copyFrom 0 = .ok (.aload_n 0, 1) := by decide +kernel
theorem dX8_copyFrom_1 : decode cX8_copyFrom 1 = .ok (.aload_n 1, 1) := by decide +kernel
theorem dX8_copyFrom_2 : decode cX8_copyFrom 2 = .ok (.getfield 51, 3) := by decide +kernel
theorem dX8_copyFrom_5 : decode cX8_copyFrom 5 = .ok (.putfield 51, 3) := by decide +kernel
theorem dX8_copyFrom_8 : decode cX8_copyFrom 8 = .ok (.aload_n 0, 1) := by decide +kernel
theorem dX8_copyFrom_9 : decode cX8_copyFrom 9 = .ok (.aload_n 1, 1) := by decide +kernel
theorem dX8_copyFrom_10 : decode cX8_copyFrom 10 = .ok (.getfield 55, 3) := by decide +kernel
theorem dX8_copyFrom_13 : decode cX8_copyFrom 13 = .ok (.putfield 55, 3) := by decide +kernel
theorem dX8_copyFrom_16 : decode cX8_copyFrom 16 = .ok (.aload_n 0, 1) := by decide +kernel
theorem dX8_copyFrom_17 : decode cX8_copyFrom 17 = .ok (.aload_n 1, 1) := by decide +kernel
theorem dX8_copyFrom_18 : decode cX8_copyFrom 18 = .ok (.getfield 58, 3) := by decide +kernel
theorem dX8_copyFrom_21 : decode cX8_copyFrom 21 = .ok (.putfield 58, 3) := by decide +kernel
theorem dX8_copyFrom_24 : decode cX8_copyFrom 24 = .ok (.aload_n 1, 1) := by decide +kernel
theorem dX8_copyFrom_25 : decode cX8_copyFrom 25 = .ok (.getfield 9, 3) := by decide +kernel
theorem dX8_copyFrom_28 : decode cX8_copyFrom 28 = .ok (.aload_n 0, 1) := by decide +kernel
theorem dX8_copyFrom_29 : decode cX8_copyFrom 29 = .ok (.getfield 9, 3) := by decide +kernel
theorem dX8_copyFrom_32 : decode cX8_copyFrom 32 = .ok (.invokestatic 67, 3) := by decide +kernel
theorem dX8_copyFrom_35 : decode cX8_copyFrom 35 = .ok (.aload_n 1, 1) := by decide +kernel
theorem dX8_copyFrom_36 : decode cX8_copyFrom 36 = .ok (.getfield 15, 3) := by decide +kernel
theorem dX8_copyFrom_39 : decode cX8_copyFrom 39 = .ok (.aload_n 0, 1) := by decide +kernel
theorem dX8_copyFrom_40 : decode cX8_copyFrom 40 = .ok (.getfield 15, 3) := by decide +kernel
theorem dX8_copyFrom_43 : decode cX8_copyFrom 43 = .ok (.invokestatic 67, 3) := by decide +kernel
theorem dX8_copyFrom_46 : decode cX8_copyFrom 46 = .ok (.aload_n 1, 1) := by decide +kernel
theorem dX8_copyFrom_47 : decode cX8_copyFrom 47 = .ok (.getfield 18, 3) := by decide +kernel
theorem dX8_copyFrom_50 : decode cX8_copyFrom 50 = .ok (.aload_n 0, 1) := by decide +kernel
theorem dX8_copyFrom_51 : decode cX8_copyFrom 51 = .ok (.getfield 18, 3) := by decide +kernel
theorem dX8_copyFrom_54 : decode cX8_copyFrom 54 = .ok (.invokestatic 67, 3) := by decide +kernel
theorem dX8_copyFrom_57 : decode cX8_copyFrom 57 = .ok (.aload_n 1, 1) := by decide +kernel
theorem dX8_copyFrom_58 : decode cX8_copyFrom 58 = .ok (.getfield 21, 3) := by decide +kernel
theorem dX8_copyFrom_61 : decode cX8_copyFrom 61 = .ok (.aload_n 0, 1) := by decide +kernel
theorem dX8_copyFrom_62 : decode cX8_copyFrom 62 = .ok (.getfield 21, 3) := by decide +kernel
theorem dX8_copyFrom_65 : decode cX8_copyFrom 65 = .ok (.invokestatic 67, 3) := by decide +kernel
theorem dX8_copyFrom_68 : decode cX8_copyFrom 68 = .ok (.aload_n 1, 1) := by decide +kernel
theorem dX8_copyFrom_69 : decode cX8_copyFrom 69 = .ok (.getfield 24, 3) := by decide +kernel
theorem dX8_copyFrom_72 : decode cX8_copyFrom 72 = .ok (.aload_n 0, 1) := by decide +kernel
theorem dX8_copyFrom_73 : decode cX8_copyFrom 73 = .ok (.getfield 24, 3) := by decide +kernel
theorem dX8_copyFrom_76 : decode cX8_copyFrom 76 = .ok (.invokestatic 67, 3) := by decide +kernel
theorem dX8_copyFrom_79 : decode cX8_copyFrom 79 = .ok (.aload_n 1, 1) := by decide +kernel
theorem dX8_copyFrom_80 : decode cX8_copyFrom 80 = .ok (.getfield 27, 3) := by decide +kernel
theorem dX8_copyFrom_83 : decode cX8_copyFrom 83 = .ok (.aload_n 0, 1) := by decide +kernel
theorem dX8_copyFrom_84 : decode cX8_copyFrom 84 = .ok (.getfield 27, 3) := by decide +kernel
theorem dX8_copyFrom_87 : decode cX8_copyFrom 87 = .ok (.invokestatic 67, 3) := by decide +kernel
theorem dX8_copyFrom_90 : decode cX8_copyFrom 90 = .ok (.aload_n 1, 1) := by decide +kernel
theorem dX8_copyFrom_91 : decode cX8_copyFrom 91 = .ok (.getfield 30, 3) := by decide +kernel
theorem dX8_copyFrom_94 : decode cX8_copyFrom 94 = .ok (.aload_n 0, 1) := by decide +kernel
theorem dX8_copyFrom_95 : decode cX8_copyFrom 95 = .ok (.getfield 30, 3) := by decide +kernel
theorem dX8_copyFrom_98 : decode cX8_copyFrom 98 = .ok (.invokestatic 67, 3) := by decide +kernel
theorem dX8_copyFrom_101 : decode cX8_copyFrom 101 = .ok (.aload_n 1, 1) := by decide +kernel
theorem dX8_copyFrom_102 : decode cX8_copyFrom 102 = .ok (.getfield 33, 3) := by decide +kernel
theorem dX8_copyFrom_105 : decode cX8_copyFrom 105 = .ok (.aload_n 0, 1) := by decide +kernel
theorem dX8_copyFrom_106 : decode cX8_copyFrom 106 = .ok (.getfield 33, 3) := by decide +kernel
theorem dX8_copyFrom_109 : decode cX8_copyFrom 109 = .ok (.invokestatic 67, 3) := by decide +kernel
theorem dX8_copyFrom_112 : decode cX8_copyFrom 112 = .ok (.aload_n 1, 1) := by decide +kernel
theorem dX8_copyFrom_113 : decode cX8_copyFrom 113 = .ok (.getfield 36, 3) := by decide +kernel
theorem dX8_copyFrom_116 : decode cX8_copyFrom 116 = .ok (.aload_n 0, 1) := by decide +kernel
theorem dX8_copyFrom_117 : decode cX8_copyFrom 117 = .ok (.getfield 36, 3) := by decide +kernel
theorem dX8_copyFrom_120 : decode cX8_copyFrom 120 = .ok (.invokestatic 67, 3) := by decide +kernel
theorem dX8_copyFrom_123 : decode cX8_copyFrom 123 = .ok (.aload_n 1, 1) := by decide +kernel
theorem dX8_copyFrom_124 : decode cX8_copyFrom 124 = .ok (.getfield 39, 3) := by decide +kernel
theorem dX8_copyFrom_127 : decode cX8_copyFrom 127 = .ok (.aload_n 0, 1) := by decide +kernel
theorem dX8_copyFrom_128 : decode cX8_copyFrom 128 = .ok (.getfield 39, 3) := by decide +kernel
theorem dX8_copyFrom_131 : decode cX8_copyFrom 131 = .ok (.invokestatic 67, 3) := by decide +kernel
theorem dX8_copyFrom_134 : decode cX8_copyFrom 134 = .ok (.aload_n 1, 1) := by decide +kernel
theorem dX8_copyFrom_135 : decode cX8_copyFrom 135 = .ok (.getfield 42, 3) := by decide +kernel
theorem dX8_copyFrom_138 : decode cX8_copyFrom 138 = .ok (.aload_n 0, 1) := by decide +kernel
theorem dX8_copyFrom_139 : decode cX8_copyFrom 139 = .ok (.getfield 42, 3) := by decide +kernel
theorem dX8_copyFrom_142 : decode cX8_copyFrom 142 = .ok (.invokestatic 67, 3) := by decide +kernel
theorem dX8_copyFrom_145 : decode cX8_copyFrom 145 = .ok (.aload_n 1, 1) := by decide +kernel
theorem dX8_copyFrom_146 : decode cX8_copyFrom 146 = .ok (.getfield 45, 3) := by decide +kernel
theorem dX8_copyFrom_149 : decode cX8_copyFrom 149 = .ok (.aload_n 0, 1) := by decide +kernel
theorem dX8_copyFrom_150 : decode cX8_copyFrom 150 = .ok (.getfield 45, 3) := by decide +kernel
theorem dX8_copyFrom_153 : decode cX8_copyFrom 153 = .ok (.invokestatic 67, 3) := by decide +kernel
theorem dX8_copyFrom_156 : decode cX8_copyFrom 156 = .ok (.aload_n 1, 1) := by decide +kernel
theorem dX8_copyFrom_157 : decode cX8_copyFrom 157 = .ok (.getfield 48, 3) := by decide +kernel
theorem dX8_copyFrom_160 : decode cX8_copyFrom 160 = .ok (.aload_n 0, 1) := by decide +kernel
theorem dX8_copyFrom_161 : decode cX8_copyFrom 161 = .ok (.getfield 48, 3) := by decide +kernel
theorem dX8_copyFrom_164 : decode cX8_copyFrom 164 = .ok (.invokestatic 67, 3) := by decide +kernel
theorem dX8_copyFrom_167 : decode cX8_copyFrom 167 = .ok (.return_, 1) := by decide +kernel
theorem dX8_filmOn_0 : decode cX8_filmOn 0 = .ok (.aload_n 0, 1) := by decide +kernel
theorem dX8_filmOn_1 : decode cX8_filmOn 1 = .ok (.getfield 27, 3) := by decide +kernel
theorem dX8_filmOn_4 : decode cX8_filmOn 4 = .ok (.iload_n 1, 1) := by decide +kernel
theorem dX8_filmOn_5 : decode cX8_filmOn 5 = .ok (.iaload, 1) := by decide +kernel
theorem dX8_filmOn_6 : decode cX8_filmOn 6 = .ok (.istore_n 3, 1) := by decide +kernel
theorem dX8_filmOn_7 : decode cX8_filmOn 7 = .ok (.iload_n 3, 1) := by decide +kernel
theorem dX8_filmOn_8 : decode cX8_filmOn 8 = .ok (.ifCond .eq 8, 3) := by decide +kernel
theorem dX8_filmOn_11 : decode cX8_filmOn 11 = .ok (.iload_n 2, 1) := by decide +kernel
theorem dX8_filmOn_12 : decode cX8_filmOn 12 = .ok (.iload_n 3, 1) := by decide +kernel
theorem dX8_filmOn_13 : decode cX8_filmOn 13 = .ok (.if_icmp .ge 12, 3) := by decide +kernel
theorem dX8_filmOn_16 : decode cX8_filmOn 16 = .ok (.aload_n 0, 1) := by decide +kernel
theorem dX8_filmOn_17 : decode cX8_filmOn 17 = .ok (.getfield 21, 3) := by decide +kernel
theorem dX8_filmOn_20 : decode cX8_filmOn 20 = .ok (.iload_n 1, 1) := by decide +kernel
theorem dX8_filmOn_21 : decode cX8_filmOn 21 = .ok (.iaload, 1) := by decide +kernel
theorem dX8_filmOn_22 : decode cX8_filmOn 22 = .ok (.goto 9, 3) := by decide +kernel
theorem dX8_filmOn_25 : decode cX8_filmOn 25 = .ok (.aload_n 0, 1) := by decide +kernel
theorem dX8_filmOn_26 : decode cX8_filmOn 26 = .ok (.getfield 24, 3) := by decide +kernel
theorem dX8_filmOn_29 : decode cX8_filmOn 29 = .ok (.iload_n 1, 1) := by decide +kernel
theorem dX8_filmOn_30 : decode cX8_filmOn 30 = .ok (.iaload, 1) := by decide +kernel
theorem dX8_filmOn_31 : decode cX8_filmOn 31 = .ok (.ireturn, 1) := by decide +kernel
theorem dX8_setBooking_0 : decode cX8_setBooking 0 = .ok (.aload_n 0, 1) := by decide +kernel
theorem dX8_setBooking_1 : decode cX8_setBooking 1 = .ok (.getfield 21, 3) := by decide +kernel
theorem dX8_setBooking_4 : decode cX8_setBooking 4 = .ok (.iload_n 1, 1) := by decide +kernel
theorem dX8_setBooking_5 : decode cX8_setBooking 5 = .ok (.iload_n 2, 1) := by decide +kernel
theorem dX8_setBooking_6 : decode cX8_setBooking 6 = .ok (.iastore, 1) := by decide +kernel
theorem dX8_setBooking_7 : decode cX8_setBooking 7 = .ok (.aload_n 0, 1) := by decide +kernel
theorem dX8_setBooking_8 : decode cX8_setBooking 8 = .ok (.getfield 24, 3) := by decide +kernel
theorem dX8_setBooking_11 : decode cX8_setBooking 11 = .ok (.iload_n 1, 1) := by decide +kernel
theorem dX8_setBooking_12 : decode cX8_setBooking 12 = .ok (.iload_n 3, 1) := by decide +kernel
theorem dX8_setBooking_13 : decode cX8_setBooking 13 = .ok (.iastore, 1) := by decide +kernel
theorem dX8_setBooking_14 : decode cX8_setBooking 14 = .ok (.aload_n 0, 1) := by decide +kernel
theorem dX8_setBooking_15 : decode cX8_setBooking 15 = .ok (.getfield 27, 3) := by decide +kernel
theorem dX8_setBooking_18 : decode cX8_setBooking 18 = .ok (.iload_n 1, 1) := by decide +kernel
theorem dX8_setBooking_19 : decode cX8_setBooking 19 = .ok (.iload 4, 2) := by decide +kernel
theorem dX8_setBooking_21 : decode cX8_setBooking 21 = .ok (.iastore, 1) := by decide +kernel
theorem dX8_setBooking_22 : decode cX8_setBooking 22 = .ok (.return_, 1) := by decide +kernel
theorem dX8_isBookedWhole_0 : decode cX8_isBookedWhole 0 = .ok (.aload_n 0, 1) := by decide +kernel
theorem dX8_isBookedWhole_1 : decode cX8_isBookedWhole 1 = .ok (.getfield 21, 3) := by decide +kernel
theorem dX8_isBookedWhole_4 : decode cX8_isBookedWhole 4 = .ok (.iload_n 1, 1) := by decide +kernel
theorem dX8_isBookedWhole_5 : decode cX8_isBookedWhole 5 = .ok (.iaload, 1) := by decide +kernel
theorem dX8_isBookedWhole_6 : decode cX8_isBookedWhole 6 = .ok (.iload_n 2, 1) := by decide +kernel
theorem dX8_isBookedWhole_7 : decode cX8_isBookedWhole 7 = .ok (.if_icmp .ne 16, 3) := by decide +kernel
theorem dX8_isBookedWhole_10 : decode cX8_isBookedWhole 10 = .ok (.aload_n 0, 1) := by decide +kernel
theorem dX8_isBookedWhole_11 : decode cX8_isBookedWhole 11 = .ok (.getfield 27, 3) := by decide +kernel
theorem dX8_isBookedWhole_14 : decode cX8_isBookedWhole 14 = .ok (.iload_n 1, 1) := by decide +kernel
theorem dX8_isBookedWhole_15 : decode cX8_isBookedWhole 15 = .ok (.iaload, 1) := by decide +kernel
theorem dX8_isBookedWhole_16 : decode cX8_isBookedWhole 16 = .ok (.ifCond .ne 7, 3) := by decide +kernel
theorem dX8_isBookedWhole_19 : decode cX8_isBookedWhole 19 = .ok (.iconst 1, 1) := by decide +kernel
theorem dX8_isBookedWhole_20 : decode cX8_isBookedWhole 20 = .ok (.goto 4, 3) := by decide +kernel
theorem dX8_isBookedWhole_23 : decode cX8_isBookedWhole 23 = .ok (.iconst 0, 1) := by decide +kernel
theorem dX8_isBookedWhole_24 : decode cX8_isBookedWhole 24 = .ok (.ireturn, 1) := by decide +kernel
theorem dX8_printsAt_0 : decode cX8_printsAt 0 = .ok (.aload_n 0, 1) := by decide +kernel
theorem dX8_printsAt_1 : decode cX8_printsAt 1 = .ok (.getfield 18, 3) := by decide +kernel
theorem dX8_printsAt_4 : decode cX8_printsAt 4 = .ok (.iload_n 1, 1) := by decide +kernel
theorem dX8_printsAt_5 : decode cX8_printsAt 5 = .ok (.iconst 5, 1) := by decide +kernel
theorem dX8_printsAt_6 : decode cX8_printsAt 6 = .ok (.imul, 1) := by decide +kernel
theorem dX8_printsAt_7 : decode cX8_printsAt 7 = .ok (.iload_n 2, 1) := by decide +kernel
theorem dX8_printsAt_8 : decode cX8_printsAt 8 = .ok (.iadd, 1) := by decide +kernel
theorem dX8_printsAt_9 : decode cX8_printsAt 9 = .ok (.iconst 1, 1) := by decide +kernel
theorem dX8_printsAt_10 : decode cX8_printsAt 10 = .ok (.iadd, 1) := by decide +kernel
theorem dX8_printsAt_11 : decode cX8_printsAt 11 = .ok (.iaload, 1) := by decide +kernel
theorem dX8_printsAt_12 : decode cX8_printsAt 12 = .ok (.ireturn, 1) := by decide +kernel
theorem dX8_addPrints_0 : decode cX8_addPrints 0 = .ok (.aload_n 0, 1) := by decide +kernel
theorem dX8_addPrints_1 : decode cX8_addPrints 1 = .ok (.getfield 18, 3) := by decide +kernel
theorem dX8_addPrints_4 : decode cX8_addPrints 4 = .ok (.iload_n 1, 1) := by decide +kernel
theorem dX8_addPrints_5 : decode cX8_addPrints 5 = .ok (.iconst 5, 1) := by decide +kernel
theorem dX8_addPrints_6 : decode cX8_addPrints 6 = .ok (.imul, 1) := by decide +kernel
theorem dX8_addPrints_7 : decode cX8_addPrints 7 = .ok (.iload_n 2, 1) := by decide +kernel
theorem dX8_addPrints_8 : decode cX8_addPrints 8 = .ok (.iadd, 1) := by decide +kernel
theorem dX8_addPrints_9 : decode cX8_addPrints 9 = .ok (.iconst 1, 1) := by decide +kernel
theorem dX8_addPrints_10 : decode cX8_addPrints 10 = .ok (.iadd, 1) := by decide +kernel
theorem dX8_addPrints_11 : decode cX8_addPrints 11 = .ok (.dup2, 1) := by decide +kernel
theorem dX8_addPrints_12 : decode cX8_addPrints 12 = .ok (.iaload, 1) := by decide +kernel
theorem dX8_addPrints_13 : decode cX8_addPrints 13 = .ok (.iload_n 3, 1) := by decide +kernel
theorem dX8_addPrints_14 : decode cX8_addPrints 14 = .ok (.iadd, 1) := by decide +kernel
theorem dX8_addPrints_15 : decode cX8_addPrints 15 = .ok (.iastore, 1) := by decide +kernel
theorem dX8_addPrints_16 : decode cX8_addPrints 16 = .ok (.return_, 1) := by decide +kernel
theorem dX8_ageOf_0 : decode cX8_ageOf 0 = .ok (.aload_n 0, 1) := by decide +kernel
theorem dX8_ageOf_1 : decode cX8_ageOf 1 = .ok (.getfield 33, 3) := by decide +kernel
theorem dX8_ageOf_4 : decode cX8_ageOf 4 = .ok (.iload_n 1, 1) := by decide +kernel
theorem dX8_ageOf_5 : decode cX8_ageOf 5 = .ok (.iaload, 1) := by decide +kernel
theorem dX8_ageOf_6 : decode cX8_ageOf 6 = .ok (.iconst (-1), 1) := by decide +kernel
theorem dX8_ageOf_7 : decode cX8_ageOf 7 = .ok (.if_icmp .ne 7, 3) := by decide +kernel
theorem dX8_ageOf_10 : decode cX8_ageOf 10 = .ok (.iconst 0, 1) := by decide +kernel
theorem dX8_ageOf_11 : decode cX8_ageOf 11 = .ok (.goto 14, 3) := by decide +kernel
theorem dX8_ageOf_14 : decode cX8_ageOf 14 = .ok (.aload_n 0, 1) := by decide +kernel
theorem dX8_ageOf_15 : decode cX8_ageOf 15 = .ok (.getfield 51, 3) := by decide +kernel
theorem dX8_ageOf_18 : decode cX8_ageOf 18 = .ok (.aload_n 0, 1) := by decide +kernel
theorem dX8_ageOf_19 : decode cX8_ageOf 19 = .ok (.getfield 33, 3) := by decide +kernel
theorem dX8_ageOf_22 : decode cX8_ageOf 22 = .ok (.iload_n 1, 1) := by decide +kernel
theorem dX8_ageOf_23 : decode cX8_ageOf 23 = .ok (.iaload, 1) := by decide +kernel
theorem dX8_ageOf_24 : decode cX8_ageOf 24 = .ok (.isub, 1) := by decide +kernel
theorem dX8_ageOf_25 : decode cX8_ageOf 25 = .ok (.ireturn, 1) := by decide +kernel
theorem dX8_runOf_0 : decode cX8_runOf 0 = .ok (.aload_n 0, 1) := by decide +kernel
theorem dX8_runOf_1 : decode cX8_runOf 1 = .ok (.getfield 42, 3) := by decide +kernel
theorem dX8_runOf_4 : decode cX8_runOf 4 = .ok (.iload_n 1, 1) := by decide +kernel
theorem dX8_runOf_5 : decode cX8_runOf 5 = .ok (.bipush 6, 2) := by decide +kernel
theorem dX8_runOf_7 : decode cX8_runOf 7 = .ok (.imul, 1) := by decide +kernel
theorem dX8_runOf_8 : decode cX8_runOf 8 = .ok (.iload_n 2, 1) := by decide +kernel
theorem dX8_runOf_9 : decode cX8_runOf 9 = .ok (.iadd, 1) := by decide +kernel
theorem dX8_runOf_10 : decode cX8_runOf 10 = .ok (.iaload, 1) := by decide +kernel
theorem dX8_runOf_11 : decode cX8_runOf 11 = .ok (.ireturn, 1) := by decide +kernel
theorem dX8_logged_0 : decode cX8_logged 0 = .ok (.aload_n 0, 1) := by decide +kernel
theorem dX8_logged_1 : decode cX8_logged 1 = .ok (.getfield 48, 3) := by decide +kernel
theorem dX8_logged_4 : decode cX8_logged 4 = .ok (.iload_n 1, 1) := by decide +kernel
theorem dX8_logged_5 : decode cX8_logged 5 = .ok (.bipush 20, 2) := by decide +kernel
theorem dX8_logged_7 : decode cX8_logged 7 = .ok (.irem, 1) := by decide +kernel
theorem dX8_logged_8 : decode cX8_logged 8 = .ok (.iconst 5, 1) := by decide +kernel
theorem dX8_logged_9 : decode cX8_logged 9 = .ok (.imul, 1) := by decide +kernel
theorem dX8_logged_10 : decode cX8_logged 10 = .ok (.iload_n 2, 1) := by decide +kernel
theorem dX8_logged_11 : decode cX8_logged 11 = .ok (.iadd, 1) := by decide +kernel
theorem dX8_logged_12 : decode cX8_logged 12 = .ok (.iaload, 1) := by decide +kernel
theorem dX8_logged_13 : decode cX8_logged 13 = .ok (.ireturn, 1) := by decide +kernel
theorem dX8_writeLog_0 : decode cX8_writeLog 0 = .ok (.aload_n 0, 1) := by decide +kernel
theorem dX8_writeLog_1 : decode cX8_writeLog 1 = .ok (.getfield 48, 3) := by decide +kernel
theorem dX8_writeLog_4 : decode cX8_writeLog 4 = .ok (.iload_n 1, 1) := by decide +kernel
theorem dX8_writeLog_5 : decode cX8_writeLog 5 = .ok (.bipush 20, 2) := by decide +kernel
theorem dX8_writeLog_7 : decode cX8_writeLog 7 = .ok (.irem, 1) := by decide +kernel
theorem dX8_writeLog_8 : decode cX8_writeLog 8 = .ok (.iconst 5, 1) := by decide +kernel
theorem dX8_writeLog_9 : decode cX8_writeLog 9 = .ok (.imul, 1) := by decide +kernel
theorem dX8_writeLog_10 : decode cX8_writeLog 10 = .ok (.iload_n 2, 1) := by decide +kernel
theorem dX8_writeLog_11 : decode cX8_writeLog 11 = .ok (.iadd, 1) := by decide +kernel
theorem dX8_writeLog_12 : decode cX8_writeLog 12 = .ok (.iload_n 3, 1) := by decide +kernel
theorem dX8_writeLog_13 : decode cX8_writeLog 13 = .ok (.iastore, 1) := by decide +kernel
theorem dX8_writeLog_14 : decode cX8_writeLog 14 = .ok (.return_, 1) := by decide +kernel
theorem dX8_countBooked_0 : decode cX8_countBooked 0 = .ok (.iconst 0, 1) := by decide +kernel
theorem dX8_countBooked_1 : decode cX8_countBooked 1 = .ok (.istore_n 2, 1) := by decide +kernel
theorem dX8_countBooked_2 : decode cX8_countBooked 2 = .ok (.iconst 0, 1) := by decide +kernel
theorem dX8_countBooked_3 : decode cX8_countBooked 3 = .ok (.istore_n 3, 1) := by decide +kernel
theorem dX8_countBooked_4 : decode cX8_countBooked 4 = .ok (.iload_n 3, 1) := by decide +kernel
theorem dX8_countBooked_5 : decode cX8_countBooked 5 = .ok (.iload_n 1, 1) := by decide +kernel
theorem dX8_countBooked_6 : decode cX8_countBooked 6 = .ok (.if_icmp .ge 22, 3) := by decide +kernel
theorem dX8_countBooked_9 : decode cX8_countBooked 9 = .ok (.aload_n 0, 1) := by decide +kernel
theorem dX8_countBooked_10 : decode cX8_countBooked 10 = .ok (.getfield 21, 3) := by decide +kernel
theorem dX8_countBooked_13 : decode cX8_countBooked 13 = .ok (.iload_n 3, 1) := by decide +kernel
theorem dX8_countBooked_14 : decode cX8_countBooked 14 = .ok (.iaload, 1) := by decide +kernel
theorem dX8_countBooked_15 : decode cX8_countBooked 15 = .ok (.iconst (-1), 1) := by decide +kernel
theorem dX8_countBooked_16 : decode cX8_countBooked 16 = .ok (.if_icmp .eq 6, 3) := by decide +kernel
theorem dX8_countBooked_19 : decode cX8_countBooked 19 = .ok (.iinc 2 1, 3) := by decide +kernel
theorem dX8_countBooked_22 : decode cX8_countBooked 22 = .ok (.iinc 3 1, 3) := by decide +kernel
theorem dX8_countBooked_25 : decode cX8_countBooked 25 = .ok (.goto (-21), 3) := by decide +kernel
theorem dX8_countBooked_28 : decode cX8_countBooked 28 = .ok (.iload_n 2, 1) := by decide +kernel
theorem dX8_countBooked_29 : decode cX8_countBooked 29 = .ok (.ireturn, 1) := by decide +kernel
theorem dX8_countHeld_0 : decode cX8_countHeld 0 = .ok (.iconst 0, 1) := by decide +kernel
theorem dX8_countHeld_1 : decode cX8_countHeld 1 = .ok (.istore_n 2, 1) := by decide +kernel
theorem dX8_countHeld_2 : decode cX8_countHeld 2 = .ok (.iconst 0, 1) := by decide +kernel
theorem dX8_countHeld_3 : decode cX8_countHeld 3 = .ok (.istore_n 3, 1) := by decide +kernel
theorem dX8_countHeld_4 : decode cX8_countHeld 4 = .ok (.iload_n 3, 1) := by decide +kernel
theorem dX8_countHeld_5 : decode cX8_countHeld 5 = .ok (.iload_n 1, 1) := by decide +kernel
theorem dX8_countHeld_6 : decode cX8_countHeld 6 = .ok (.if_icmp .ge 18, 3) := by decide +kernel
theorem dX8_countHeld_9 : decode cX8_countHeld 9 = .ok (.iload_n 2, 1) := by decide +kernel
theorem dX8_countHeld_10 : decode cX8_countHeld 10 = .ok (.aload_n 0, 1) := by decide +kernel
theorem dX8_countHeld_11 : decode cX8_countHeld 11 = .ok (.getfield 30, 3) := by decide +kernel
theorem dX8_countHeld_14 : decode cX8_countHeld 14 = .ok (.iload_n 3, 1) := by decide +kernel
theorem dX8_countHeld_15 : decode cX8_countHeld 15 = .ok (.iaload, 1) := by decide +kernel
theorem dX8_countHeld_16 : decode cX8_countHeld 16 = .ok (.iadd, 1) := by decide +kernel
theorem dX8_countHeld_17 : decode cX8_countHeld 17 = .ok (.istore_n 2, 1) := by decide +kernel
theorem dX8_countHeld_18 : decode cX8_countHeld 18 = .ok (.iinc 3 1, 3) := by decide +kernel
theorem dX8_countHeld_21 : decode cX8_countHeld 21 = .ok (.goto (-17), 3) := by decide +kernel
theorem dX8_countHeld_24 : decode cX8_countHeld 24 = .ok (.iload_n 2, 1) := by decide +kernel
theorem dX8_countHeld_25 : decode cX8_countHeld 25 = .ok (.ireturn, 1) := by decide +kernel
theorem dX9_init_0 : decode cX9_init 0 = .ok (.aload_n 0, 1) := by decide +kernel
theorem dX9_init_1 : decode cX9_init 1 = .ok (.invokespecial 3, 3) := by decide +kernel
theorem dX9_init_4 : decode cX9_init 4 = .ok (.aload_n 0, 1) := by decide +kernel
theorem dX9_init_5 : decode cX9_init 5 = .ok (.aload_n 1, 1) := by decide +kernel
theorem dX9_init_6 : decode cX9_init 6 = .ok (.putfield 9, 3) := by decide +kernel
theorem dX9_init_9 : decode cX9_init 9 = .ok (.return_, 1) := by decide +kernel
theorem dX9_begin_0 : decode cX9_begin 0 = .ok (.aload_n 0, 1) := by decide +kernel
theorem dX9_begin_1 : decode cX9_begin 1 = .ok (.iload_n 1, 1) := by decide +kernel
theorem dX9_begin_2 : decode cX9_begin 2 = .ok (.aload_n 0, 1) := by decide +kernel
theorem dX9_begin_3 : decode cX9_begin 3 = .ok (.getfield 9, 3) := by decide +kernel
theorem dX9_begin_6 : decode cX9_begin 6 = .ok (.arraylength, 1) := by decide +kernel
theorem dX9_begin_7 : decode cX9_begin 7 = .ok (.invokestatic 15, 3) := by decide +kernel
theorem dX9_begin_10 : decode cX9_begin 10 = .ok (.putfield 21, 3) := by decide +kernel
theorem dX9_begin_13 : decode cX9_begin 13 = .ok (.aload_n 0, 1) := by decide +kernel
theorem dX9_begin_14 : decode cX9_begin 14 = .ok (.iconst 0, 1) := by decide +kernel
theorem dX9_begin_15 : decode cX9_begin 15 = .ok (.putfield 25, 3) := by decide +kernel
theorem dX9_begin_18 : decode cX9_begin 18 = .ok (.aload_n 0, 1) := by decide +kernel
theorem dX9_begin_19 : decode cX9_begin 19 = .ok (.iconst 0, 1) := by decide +kernel
theorem dX9_begin_20 : decode cX9_begin 20 = .ok (.putfield 28, 3) := by decide +kernel
theorem dX9_begin_23 : decode cX9_begin 23 = .ok (.aload_n 0, 1) := by decide +kernel
theorem dX9_begin_24 : decode cX9_begin 24 = .ok (.iconst (-1), 1) := by decide +kernel
theorem dX9_begin_25 : decode cX9_begin 25 = .ok (.putfield 31, 3) := by decide +kernel
theorem dX9_begin_28 : decode cX9_begin 28 = .ok (.aload_n 0, 1) := by decide +kernel
theorem dX9_begin_29 : decode cX9_begin 29 = .ok (.invokevirtual 34, 3) := by decide +kernel
theorem dX9_begin_32 : decode cX9_begin 32 = .ok (.return_, 1) := by decide +kernel
theorem dX9_failed_0 : decode cX9_failed 0 = .ok (.aload_n 0, 1) := by decide +kernel
theorem dX9_failed_1 : decode cX9_failed 1 = .ok (.getfield 28, 3) := by decide +kernel
theorem dX9_failed_4 : decode cX9_failed 4 = .ok (.ifCond .eq 7, 3) := by decide +kernel
theorem dX9_failed_7 : decode cX9_failed 7 = .ok (.iconst 1, 1) := by decide +kernel
theorem dX9_failed_8 : decode cX9_failed 8 = .ok (.goto 4, 3) := by decide +kernel
theorem dX9_failed_11 : decode cX9_failed 11 = .ok (.iconst 0, 1) := by decide +kernel
theorem dX9_failed_12 : decode cX9_failed 12 = .ok (.ireturn, 1) := by decide +kernel
theorem dX9_fail_0 : decode cX9_fail 0 = .ok (.aload_n 0, 1) := by decide +kernel
theorem dX9_fail_1 : decode cX9_fail 1 = .ok (.getfield 28, 3) := by decide +kernel
theorem dX9_fail_4 : decode cX9_fail 4 = .ok (.ifCond .ne 16, 3) := by decide +kernel
theorem dX9_fail_7 : decode cX9_fail 7 = .ok (.aload_n 0, 1) := by decide +kernel
theorem dX9_fail_8 : decode cX9_fail 8 = .ok (.iload_n 1, 1) := by decide +kernel
theorem dX9_fail_9 : decode cX9_fail 9 = .ok (.putfield 28, 3) := by decide +kernel
theorem dX9_fail_12 : decode cX9_fail 12 = .ok (.aload_n 0, 1) := by decide +kernel
theorem dX9_fail_13 : decode cX9_fail 13 = .ok (.aload_n 0, 1) := by decide +kernel
theorem dX9_fail_14 : decode cX9_fail 14 = .ok (.getfield 37, 3) := by decide +kernel
theorem dX9_fail_17 : decode cX9_fail 17 = .ok (.putfield 31, 3) := by decide +kernel
theorem dX9_fail_20 : decode cX9_fail 20 = .ok (.aload_n 0, 1) := by decide +kernel
theorem dX9_fail_21 : decode cX9_fail 21 = .ok (.iconst 0, 1) := by decide +kernel
theorem dX9_fail_22 : decode cX9_fail 22 = .ok (.putfield 40, 3) := by decide +kernel
theorem dX9_fail_25 : decode cX9_fail 25 = .ok (.return_, 1) := by decide +kernel
theorem dX9_advance_0 : decode cX9_advance 0 = .ok (.aload_n 0, 1) := by decide +kernel
theorem dX9_advance_1 : decode cX9_advance 1 = .ok (.getfield 25, 3) := by decide +kernel
theorem dX9_advance_4 : decode cX9_advance 4 = .ok (.aload_n 0, 1) := by decide +kernel
theorem dX9_advance_5 : decode cX9_advance 5 = .ok (.getfield 21, 3) := by decide +kernel
theorem dX9_advance_8 : decode cX9_advance 8 = .ok (.if_icmp .ge 44, 3) := by decide +kernel
theorem dX9_advance_11 : decode cX9_advance 11 = .ok (.aload_n 0, 1) := by decide +kernel
theorem dX9_advance_12 : decode cX9_advance 12 = .ok (.getfield 9, 3) := by decide +kernel
theorem dX9_advance_15 : decode cX9_advance 15 = .ok (.aload_n 0, 1) := by decide +kernel
theorem dX9_advance_16 : decode cX9_advance 16 = .ok (.getfield 25, 3) := by decide +kernel
theorem dX9_advance_19 : decode cX9_advance 19 = .ok (.baload, 1) := by decide +kernel
theorem dX9_advance_20 : decode cX9_advance 20 = .ok (.bipush 32, 2) := by decide +kernel
theorem dX9_advance_22 : decode cX9_advance 22 = .ok (.if_icmp .eq 17, 3) := by decide +kernel
theorem dX9_advance_25 : decode cX9_advance 25 = .ok (.aload_n 0, 1) := by decide +kernel
theorem dX9_advance_26 : decode cX9_advance 26 = .ok (.getfield 9, 3) := by decide +kernel
theorem dX9_advance_29 : decode cX9_advance 29 = .ok (.aload_n 0, 1) := by decide +kernel
theorem dX9_advance_30 : decode cX9_advance 30 = .ok (.getfield 25, 3) := by decide +kernel
theorem dX9_advance_33 : decode cX9_advance 33 = .ok (.baload, 1) := by decide +kernel
theorem dX9_advance_34 : decode cX9_advance 34 = .ok (.bipush 10, 2) := by decide +kernel
theorem dX9_advance_36 : decode cX9_advance 36 = .ok (.if_icmp .ne 16, 3) := by decide +kernel
theorem dX9_advance_39 : decode cX9_advance 39 = .ok (.aload_n 0, 1) := by decide +kernel
theorem dX9_advance_40 : decode cX9_advance 40 = .ok (.dup, 1) := by decide +kernel
theorem dX9_advance_41 : decode cX9_advance 41 = .ok (.getfield 25, 3) := by decide +kernel
theorem dX9_advance_44 : decode cX9_advance 44 = .ok (.iconst 1, 1) := by decide +kernel
theorem dX9_advance_45 : decode cX9_advance 45 = .ok (.iadd, 1) := by decide +kernel
theorem dX9_advance_46 : decode cX9_advance 46 = .ok (.putfield 25, 3) := by decide +kernel
theorem dX9_advance_49 : decode cX9_advance 49 = .ok (.goto (-49), 3) := by decide +kernel
theorem dX9_advance_52 : decode cX9_advance 52 = .ok (.aload_n 0, 1) := by decide +kernel
theorem dX9_advance_53 : decode cX9_advance 53 = .ok (.aload_n 0, 1) := by decide +kernel
theorem dX9_advance_54 : decode cX9_advance 54 = .ok (.getfield 25, 3) := by decide +kernel
theorem dX9_advance_57 : decode cX9_advance 57 = .ok (.putfield 37, 3) := by decide +kernel
theorem dX9_advance_60 : decode cX9_advance 60 = .ok (.aload_n 0, 1) := by decide +kernel
theorem dX9_advance_61 : decode cX9_advance 61 = .ok (.iconst 0, 1) := by decide +kernel
theorem dX9_advance_62 : decode cX9_advance 62 = .ok (.putfield 43, 3) := by decide +kernel
theorem dX9_advance_65 : decode cX9_advance 65 = .ok (.aload_n 0, 1) := by decide +kernel
theorem dX9_advance_66 : decode cX9_advance 66 = .ok (.getfield 25, 3) := by decide +kernel
theorem dX9_advance_69 : decode cX9_advance 69 = .ok (.aload_n 0, 1) := by decide +kernel
theorem dX9_advance_70 : decode cX9_advance 70 = .ok (.getfield 21, 3) := by decide +kernel
theorem dX9_advance_73 : decode cX9_advance 73 = .ok (.if_icmp .ge 49, 3) := by decide +kernel
theorem dX9_advance_76 : decode cX9_advance 76 = .ok (.aload_n 0, 1) := by decide +kernel
theorem dX9_advance_77 : decode cX9_advance 77 = .ok (.getfield 9, 3) := by decide +kernel
theorem dX9_advance_80 : decode cX9_advance 80 = .ok (.aload_n 0, 1) := by decide +kernel
theorem dX9_advance_81 : decode cX9_advance 81 = .ok (.getfield 25, 3) := by decide +kernel
theorem dX9_advance_84 : decode cX9_advance 84 = .ok (.baload, 1) := by decide +kernel
theorem dX9_advance_85 : decode cX9_advance 85 = .ok (.bipush 97, 2) := by decide +kernel
theorem dX9_advance_87 : decode cX9_advance 87 = .ok (.if_icmp .lt 35, 3) := by decide +kernel
theorem dX9_advance_90 : decode cX9_advance 90 = .ok (.aload_n 0, 1) := by decide +kernel
theorem dX9_advance_91 : decode cX9_advance 91 = .ok (.getfield 9, 3) := by decide +kernel
theorem dX9_advance_94 : decode cX9_advance 94 = .ok (.aload_n 0, 1) := by decide +kernel
theorem dX9_advance_95 : decode cX9_advance 95 = .ok (.getfield 25, 3) := by decide +kernel
theorem dX9_advance_98 : decode cX9_advance 98 = .ok (.baload, 1) := by decide +kernel
theorem dX9_advance_99 : decode cX9_advance 99 = .ok (.bipush 122, 2) := by decide +kernel
theorem dX9_advance_101 : decode cX9_advance 101 = .ok (.if_icmp .gt 21, 3) := by decide +kernel
theorem dX9_advance_104 : decode cX9_advance 104 = .ok (.aload_n 0, 1) := by decide +kernel
theorem dX9_advance_105 : decode cX9_advance 105 = .ok (.dup, 1) := by decide +kernel
theorem dX9_advance_106 : decode cX9_advance 106 = .ok (.getfield 25, 3) := by decide +kernel
theorem dX9_advance_109 : decode cX9_advance 109 = .ok (.iconst 1, 1) := by decide +kernel
theorem dX9_advance_110 : decode cX9_advance 110 = .ok (.iadd, 1) := by decide +kernel
theorem dX9_advance_111 : decode cX9_advance 111 = .ok (.putfield 25, 3) := by decide +kernel
theorem dX9_advance_114 : decode cX9_advance 114 = .ok (.aload_n 0, 1) := by decide +kernel
theorem dX9_advance_115 : decode cX9_advance 115 = .ok (.iconst 1, 1) := by decide +kernel
theorem dX9_advance_116 : decode cX9_advance 116 = .ok (.putfield 40, 3) := by decide +kernel
theorem dX9_advance_119 : decode cX9_advance 119 = .ok (.goto (-54), 3) := by decide +kernel
theorem dX9_advance_122 : decode cX9_advance 122 = .ok (.aload_n 0, 1) := by decide +kernel
theorem dX9_advance_123 : decode cX9_advance 123 = .ok (.getfield 25, 3) := by decide +kernel
theorem dX9_advance_126 : decode cX9_advance 126 = .ok (.aload_n 0, 1) := by decide +kernel
theorem dX9_advance_127 : decode cX9_advance 127 = .ok (.getfield 37, 3) := by decide +kernel
theorem dX9_advance_130 : decode cX9_advance 130 = .ok (.if_icmp .le 4, 3) := by decide +kernel
theorem dX9_advance_133 : decode cX9_advance 133 = .ok (.return_, 1) := by decide +kernel
theorem dX9_advance_134 : decode cX9_advance 134 = .ok (.aload_n 0, 1) := by decide +kernel
theorem dX9_advance_135 : decode cX9_advance 135 = .ok (.getfield 25, 3) := by decide +kernel
theorem dX9_advance_138 : decode cX9_advance 138 = .ok (.aload_n 0, 1) := by decide +kernel
theorem dX9_advance_139 : decode cX9_advance 139 = .ok (.getfield 21, 3) := by decide +kernel
theorem dX9_advance_142 : decode cX9_advance 142 = .ok (.if_icmp .ge 87, 3) := by decide +kernel
theorem dX9_advance_145 : decode cX9_advance 145 = .ok (.aload_n 0, 1) := by decide +kernel
theorem dX9_advance_146 : decode cX9_advance 146 = .ok (.getfield 9, 3) := by decide +kernel
theorem dX9_advance_149 : decode cX9_advance 149 = .ok (.aload_n 0, 1) := by decide +kernel
theorem dX9_advance_150 : decode cX9_advance 150 = .ok (.getfield 25, 3) := by decide +kernel
theorem dX9_advance_153 : decode cX9_advance 153 = .ok (.baload, 1) := by decide +kernel
theorem dX9_advance_154 : decode cX9_advance 154 = .ok (.bipush 48, 2) := by decide +kernel
theorem dX9_advance_156 : decode cX9_advance 156 = .ok (.if_icmp .lt 73, 3) := by decide +kernel
theorem dX9_advance_159 : decode cX9_advance 159 = .ok (.aload_n 0, 1) := by decide +kernel
theorem dX9_advance_160 : decode cX9_advance 160 = .ok (.getfield 9, 3) := by decide +kernel
theorem dX9_advance_163 : decode cX9_advance 163 = .ok (.aload_n 0, 1) := by decide +kernel
theorem dX9_advance_164 : decode cX9_advance 164 = .ok (.getfield 25, 3) := by decide +kernel
theorem dX9_advance_167 : decode cX9_advance 167 = .ok (.baload, 1) := by decide +kernel
theorem dX9_advance_168 : decode cX9_advance 168 = .ok (.bipush 57, 2) := by decide +kernel
theorem dX9_advance_170 : decode cX9_advance 170 = .ok (.if_icmp .gt 59, 3) := by decide +kernel
theorem dX9_advance_173 : decode cX9_advance 173 = .ok (.aload_n 0, 1) := by decide +kernel
theorem dX9_advance_174 : decode cX9_advance 174 = .ok (.aload_n 0, 1) := by decide +kernel
theorem dX9_advance_175 : decode cX9_advance 175 = .ok (.getfield 43, 3) := by decide +kernel
theorem dX9_advance_178 : decode cX9_advance 178 = .ok (.ldc 46, 2) := by decide +kernel
theorem dX9_advance_180 : decode cX9_advance 180 = .ok (.if_icmp .ge 26, 3) := by decide +kernel
theorem dX9_advance_183 : decode cX9_advance 183 = .ok (.aload_n 0, 1) := by decide +kernel
theorem dX9_advance_184 : decode cX9_advance 184 = .ok (.getfield 43, 3) := by decide +kernel
theorem dX9_advance_187 : decode cX9_advance 187 = .ok (.bipush 10, 2) := by decide +kernel
theorem dX9_advance_189 : decode cX9_advance 189 = .ok (.imul, 1) := by decide +kernel
theorem dX9_advance_190 : decode cX9_advance 190 = .ok (.aload_n 0, 1) := by decide +kernel
theorem dX9_advance_191 : decode cX9_advance 191 = .ok (.getfield 9, 3) := by decide +kernel
theorem dX9_advance_194 : decode cX9_advance 194 = .ok (.aload_n 0, 1) := by decide +kernel
theorem dX9_advance_195 : decode cX9_advance 195 = .ok (.getfield 25, 3) := by decide +kernel
theorem dX9_advance_198 : decode cX9_advance 198 = .ok (.baload, 1) := by decide +kernel
theorem dX9_advance_199 : decode cX9_advance 199 = .ok (.iadd, 1) := by decide +kernel
theorem dX9_advance_200 : decode cX9_advance 200 = .ok (.bipush 48, 2) := by decide +kernel
theorem dX9_advance_202 : decode cX9_advance 202 = .ok (.isub, 1) := by decide +kernel
theorem dX9_advance_203 : decode cX9_advance 203 = .ok (.goto 5, 3) := by decide +kernel
theorem dX9_advance_206 : decode cX9_advance 206 = .ok (.ldc 46, 2) := by decide +kernel
theorem dX9_advance_208 : decode cX9_advance 208 = .ok (.putfield 43, 3) := by decide +kernel
theorem dX9_advance_211 : decode cX9_advance 211 = .ok (.aload_n 0, 1) := by decide +kernel
theorem dX9_advance_212 : decode cX9_advance 212 = .ok (.dup, 1) := by decide +kernel
theorem dX9_advance_213 : decode cX9_advance 213 = .ok (.getfield 25, 3) := by decide +kernel
theorem dX9_advance_216 : decode cX9_advance 216 = .ok (.iconst 1, 1) := by decide +kernel
theorem dX9_advance_217 : decode cX9_advance 217 = .ok (.iadd, 1) := by decide +kernel
theorem dX9_advance_218 : decode cX9_advance 218 = .ok (.putfield 25, 3) := by decide +kernel
theorem dX9_advance_221 : decode cX9_advance 221 = .ok (.aload_n 0, 1) := by decide +kernel
theorem dX9_advance_222 : decode cX9_advance 222 = .ok (.iconst 2, 1) := by decide +kernel
theorem dX9_advance_223 : decode cX9_advance 223 = .ok (.putfield 40, 3) := by decide +kernel
theorem dX9_advance_226 : decode cX9_advance 226 = .ok (.goto (-92), 3) := by decide +kernel
theorem dX9_advance_229 : decode cX9_advance 229 = .ok (.aload_n 0, 1) := by decide +kernel
theorem dX9_advance_230 : decode cX9_advance 230 = .ok (.getfield 25, 3) := by decide +kernel
theorem dX9_advance_233 : decode cX9_advance 233 = .ok (.aload_n 0, 1) := by decide +kernel
theorem dX9_advance_234 : decode cX9_advance 234 = .ok (.getfield 37, 3) := by decide +kernel
theorem dX9_advance_237 : decode cX9_advance 237 = .ok (.if_icmp .le 4, 3) := by decide +kernel
theorem dX9_advance_240 : decode cX9_advance 240 = .ok (.return_, 1) := by decide +kernel
theorem dX9_advance_241 : decode cX9_advance 241 = .ok (.aload_n 0, 1) := by decide +kernel
theorem dX9_advance_242 : decode cX9_advance 242 = .ok (.iconst 0, 1) := by decide +kernel
theorem dX9_advance_243 : decode cX9_advance 243 = .ok (.putfield 40, 3) := by decide +kernel
theorem dX9_advance_246 : decode cX9_advance 246 = .ok (.aload_n 0, 1) := by decide +kernel
theorem dX9_advance_247 : decode cX9_advance 247 = .ok (.getfield 25, 3) := by decide +kernel
theorem dX9_advance_250 : decode cX9_advance 250 = .ok (.aload_n 0, 1) := by decide +kernel
theorem dX9_advance_251 : decode cX9_advance 251 = .ok (.getfield 21, 3) := by decide +kernel
theorem dX9_advance_254 : decode cX9_advance 254 = .ok (.if_icmp .ge 31, 3) := by decide +kernel
theorem dX9_advance_257 : decode cX9_advance 257 = .ok (.aload_n 0, 1) := by decide +kernel
theorem dX9_advance_258 : decode cX9_advance 258 = .ok (.aload_n 0, 1) := by decide +kernel
theorem dX9_advance_259 : decode cX9_advance 259 = .ok (.getfield 9, 3) := by decide +kernel
theorem dX9_advance_262 : decode cX9_advance 262 = .ok (.aload_n 0, 1) := by decide +kernel
theorem dX9_advance_263 : decode cX9_advance 263 = .ok (.getfield 25, 3) := by decide +kernel
theorem dX9_advance_266 : decode cX9_advance 266 = .ok (.baload, 1) := by decide +kernel
theorem dX9_advance_267 : decode cX9_advance 267 = .ok (.putfield 43, 3) := by decide +kernel
theorem dX9_advance_270 : decode cX9_advance 270 = .ok (.aload_n 0, 1) := by decide +kernel
theorem dX9_advance_271 : decode cX9_advance 271 = .ok (.dup, 1) := by decide +kernel
theorem dX9_advance_272 : decode cX9_advance 272 = .ok (.getfield 25, 3) := by decide +kernel
theorem dX9_advance_275 : decode cX9_advance 275 = .ok (.iconst 1, 1) := by decide +kernel
theorem dX9_advance_276 : decode cX9_advance 276 = .ok (.iadd, 1) := by decide +kernel
theorem dX9_advance_277 : decode cX9_advance 277 = .ok (.putfield 25, 3) := by decide +kernel
theorem dX9_advance_280 : decode cX9_advance 280 = .ok (.aload_n 0, 1) := by decide +kernel
theorem dX9_advance_281 : decode cX9_advance 281 = .ok (.iconst 3, 1) := by decide +kernel
theorem dX9_advance_282 : decode cX9_advance 282 = .ok (.putfield 40, 3) := by decide +kernel
theorem dX9_advance_285 : decode cX9_advance 285 = .ok (.return_, 1) := by decide +kernel
theorem dX9_isWord_0 : decode cX9_isWord 0 = .ok (.aload_n 0, 1) := by decide +kernel
theorem dX9_isWord_1 : decode cX9_isWord 1 = .ok (.getfield 40, 3) := by decide +kernel
theorem dX9_isWord_4 : decode cX9_isWord 4 = .ok (.iconst 1, 1) := by decide +kernel
theorem dX9_isWord_5 : decode cX9_isWord 5 = .ok (.if_icmp .ne 19, 3) := by decide +kernel
theorem dX9_isWord_8 : decode cX9_isWord 8 = .ok (.aload_n 0, 1) := by decide +kernel
theorem dX9_isWord_9 : decode cX9_isWord 9 = .ok (.getfield 25, 3) := by decide +kernel
theorem dX9_isWord_12 : decode cX9_isWord 12 = .ok (.aload_n 0, 1) := by decide +kernel
theorem dX9_isWord_13 : decode cX9_isWord 13 = .ok (.getfield 37, 3) := by decide +kernel
theorem dX9_isWord_16 : decode cX9_isWord 16 = .ok (.isub, 1) := by decide +kernel
theorem dX9_isWord_17 : decode cX9_isWord 17 = .ok (.aload_n 1, 1) := by decide +kernel
theorem dX9_isWord_18 : decode cX9_isWord 18 = .ok (.invokevirtual 47, 3) := by decide +kernel
theorem dX9_isWord_21 : decode cX9_isWord 21 = .ok (.if_icmp .eq 5, 3) := by decide +kernel
theorem dX9_isWord_24 : decode cX9_isWord 24 = .ok (.iconst 0, 1) := by decide +kernel
theorem dX9_isWord_25 : decode cX9_isWord 25 = .ok (.ireturn, 1) := by decide +kernel
theorem dX9_isWord_26 : decode cX9_isWord 26 = .ok (.iconst 0, 1) := by decide +kernel
theorem dX9_isWord_27 : decode cX9_isWord 27 = .ok (.istore_n 2, 1) := by decide +kernel
theorem dX9_isWord_28 : decode cX9_isWord 28 = .ok (.iload_n 2, 1) := by decide +kernel
theorem dX9_isWord_29 : decode cX9_isWord 29 = .ok (.aload_n 1, 1) := by decide +kernel
theorem dX9_isWord_30 : decode cX9_isWord 30 = .ok (.invokevirtual 47, 3) := by decide +kernel
theorem dX9_isWord_33 : decode cX9_isWord 33 = .ok (.if_icmp .ge 30, 3) := by decide +kernel
theorem dX9_isWord_36 : decode cX9_isWord 36 = .ok (.aload_n 0, 1) := by decide +kernel
theorem dX9_isWord_37 : decode cX9_isWord 37 = .ok (.getfield 9, 3) := by decide +kernel
theorem dX9_isWord_40 : decode cX9_isWord 40 = .ok (.aload_n 0, 1) := by decide +kernel
theorem dX9_isWord_41 : decode cX9_isWord 41 = .ok (.getfield 37, 3) := by decide +kernel
theorem dX9_isWord_44 : decode cX9_isWord 44 = .ok (.iload_n 2, 1) := by decide +kernel
theorem dX9_isWord_45 : decode cX9_isWord 45 = .ok (.iadd, 1) := by decide +kernel
theorem dX9_isWord_46 : decode cX9_isWord 46 = .ok (.baload, 1) := by decide +kernel
theorem dX9_isWord_47 : decode cX9_isWord 47 = .ok (.aload_n 1, 1) := by decide +kernel
theorem dX9_isWord_48 : decode cX9_isWord 48 = .ok (.iload_n 2, 1) := by decide +kernel
theorem dX9_isWord_49 : decode cX9_isWord 49 = .ok (.invokevirtual 52, 3) := by decide +kernel
theorem dX9_isWord_52 : decode cX9_isWord 52 = .ok (.if_icmp .eq 5, 3) := by decide +kernel
theorem dX9_isWord_55 : decode cX9_isWord 55 = .ok (.iconst 0, 1) := by decide +kernel
theorem dX9_isWord_56 : decode cX9_isWord 56 = .ok (.ireturn, 1) := by decide +kernel
theorem dX9_isWord_57 : decode cX9_isWord 57 = .ok (.iinc 2 1, 3) := by decide +kernel
theorem dX9_isWord_60 : decode cX9_isWord 60 = .ok (.goto (-32), 3) := by decide +kernel
theorem dX9_isWord_63 : decode cX9_isWord 63 = .ok (.iconst 1, 1) := by decide +kernel
theorem dX9_isWord_64 : decode cX9_isWord 64 = .ok (.ireturn, 1) := by decide +kernel
theorem dX9_isSign_0 : decode cX9_isSign 0 = .ok (.aload_n 0, 1) := by decide +kernel
theorem dX9_isSign_1 : decode cX9_isSign 1 = .ok (.getfield 40, 3) := by decide +kernel
theorem dX9_isSign_4 : decode cX9_isSign 4 = .ok (.iconst 3, 1) := by decide +kernel
theorem dX9_isSign_5 : decode cX9_isSign 5 = .ok (.if_icmp .ne 15, 3) := by decide +kernel
theorem dX9_isSign_8 : decode cX9_isSign 8 = .ok (.aload_n 0, 1) := by decide +kernel
theorem dX9_isSign_9 : decode cX9_isSign 9 = .ok (.getfield 43, 3) := by decide +kernel
theorem dX9_isSign_12 : decode cX9_isSign 12 = .ok (.iload_n 1, 1) := by decide +kernel
theorem dX9_isSign_13 : decode cX9_isSign 13 = .ok (.if_icmp .ne 7, 3) := by decide +kernel
theorem dX9_isSign_16 : decode cX9_isSign 16 = .ok (.iconst 1, 1) := by decide +kernel
theorem dX9_isSign_17 : decode cX9_isSign 17 = .ok (.goto 4, 3) := by decide +kernel
theorem dX9_isSign_20 : decode cX9_isSign 20 = .ok (.iconst 0, 1) := by decide +kernel
theorem dX9_isSign_21 : decode cX9_isSign 21 = .ok (.ireturn, 1) := by decide +kernel
theorem dX9_takeWord_0 : decode cX9_takeWord 0 = .ok (.aload_n 0, 1) := by decide +kernel
theorem dX9_takeWord_1 : decode cX9_takeWord 1 = .ok (.aload_n 1, 1) := by decide +kernel
theorem dX9_takeWord_2 : decode cX9_takeWord 2 = .ok (.invokevirtual 56, 3) := by decide +kernel
theorem dX9_takeWord_5 : decode cX9_takeWord 5 = .ok (.istore_n 2, 1) := by decide +kernel
theorem dX9_takeWord_6 : decode cX9_takeWord 6 = .ok (.iload_n 2, 1) := by decide +kernel
theorem dX9_takeWord_7 : decode cX9_takeWord 7 = .ok (.ifCond .eq 7, 3) := by decide +kernel
theorem dX9_takeWord_10 : decode cX9_takeWord 10 = .ok (.aload_n 0, 1) := by decide +kernel
theorem dX9_takeWord_11 : decode cX9_takeWord 11 = .ok (.invokevirtual 34, 3) := by decide +kernel
theorem dX9_takeWord_14 : decode cX9_takeWord 14 = .ok (.iload_n 2, 1) := by decide +kernel
theorem dX9_takeWord_15 : decode cX9_takeWord 15 = .ok (.ireturn, 1) := by decide +kernel
theorem dX9_takeSign_0 : decode cX9_takeSign 0 = .ok (.aload_n 0, 1) := by decide +kernel
theorem dX9_takeSign_1 : decode cX9_takeSign 1 = .ok (.iload_n 1, 1) := by decide +kernel
theorem dX9_takeSign_2 : decode cX9_takeSign 2 = .ok (.invokevirtual 60, 3) := by decide +kernel
theorem dX9_takeSign_5 : decode cX9_takeSign 5 = .ok (.ifCond .eq 10, 3) := by decide +kernel
theorem dX9_takeSign_8 : decode cX9_takeSign 8 = .ok (.aload_n 0, 1) := by decide +kernel
theorem dX9_takeSign_9 : decode cX9_takeSign 9 = .ok (.invokevirtual 34, 3) := by decide +kernel
theorem dX9_takeSign_12 : decode cX9_takeSign 12 = .ok (.goto 8, 3) := by decide +kernel
theorem dX9_takeSign_15 : decode cX9_takeSign 15 = .ok (.aload_n 0, 1) := by decide +kernel
theorem dX9_takeSign_16 : decode cX9_takeSign 16 = .ok (.iconst 1, 1) := by decide +kernel
theorem dX9_takeSign_17 : decode cX9_takeSign 17 = .ok (.invokevirtual 64, 3) := by decide +kernel
theorem dX9_takeSign_20 : decode cX9_takeSign 20 = .ok (.return_, 1) := by decide +kernel
theorem dX9_takeNumber_0 : decode cX9_takeNumber 0 = .ok (.aload_n 0, 1) := by decide +kernel
theorem dX9_takeNumber_1 : decode cX9_takeNumber 1 = .ok (.getfield 40, 3) := by decide +kernel
theorem dX9_takeNumber_4 : decode cX9_takeNumber 4 = .ok (.iconst 2, 1) := by decide +kernel
theorem dX9_takeNumber_5 : decode cX9_takeNumber 5 = .ok (.if_icmp .eq 10, 3) := by decide +kernel
theorem dX9_takeNumber_8 : decode cX9_takeNumber 8 = .ok (.aload_n 0, 1) := by decide +kernel
theorem dX9_takeNumber_9 : decode cX9_takeNumber 9 = .ok (.iconst 1, 1) := by decide +kernel
theorem dX9_takeNumber_10 : decode cX9_takeNumber 10 = .ok (.invokevirtual 64, 3) := by decide +kernel
theorem dX9_takeNumber_13 : decode cX9_takeNumber 13 = .ok (.iload_n 1, 1) := by decide +kernel
theorem dX9_takeNumber_14 : decode cX9_takeNumber 14 = .ok (.ireturn, 1) := by decide +kernel
theorem dX9_takeNumber_15 : decode cX9_takeNumber 15 = .ok (.aload_n 0, 1) := by decide +kernel
theorem dX9_takeNumber_16 : decode cX9_takeNumber 16 = .ok (.getfield 43, 3) := by decide +kernel
theorem dX9_takeNumber_19 : decode cX9_takeNumber 19 = .ok (.iload_n 1, 1) := by decide +kernel
theorem dX9_takeNumber_20 : decode cX9_takeNumber 20 = .ok (.if_icmp .lt 11, 3) := by decide +kernel
theorem dX9_takeNumber_23 : decode cX9_takeNumber 23 = .ok (.aload_n 0, 1) := by decide +kernel
theorem dX9_takeNumber_24 : decode cX9_takeNumber 24 = .ok (.getfield 43, 3) := by decide +kernel
theorem dX9_takeNumber_27 : decode cX9_takeNumber 27 = .ok (.iload_n 2, 1) := by decide +kernel
theorem dX9_takeNumber_28 : decode cX9_takeNumber 28 = .ok (.if_icmp .le 10, 3) := by decide +kernel
theorem dX9_takeNumber_31 : decode cX9_takeNumber 31 = .ok (.aload_n 0, 1) := by decide +kernel
theorem dX9_takeNumber_32 : decode cX9_takeNumber 32 = .ok (.iconst 2, 1) := by decide +kernel
theorem dX9_takeNumber_33 : decode cX9_takeNumber 33 = .ok (.invokevirtual 64, 3) := by decide +kernel
theorem dX9_takeNumber_36 : decode cX9_takeNumber 36 = .ok (.iload_n 1, 1) := by decide +kernel
theorem dX9_takeNumber_37 : decode cX9_takeNumber 37 = .ok (.ireturn, 1) := by decide +kernel
theorem dX9_takeNumber_38 : decode cX9_takeNumber 38 = .ok (.aload_n 0, 1) := by decide +kernel
theorem dX9_takeNumber_39 : decode cX9_takeNumber 39 = .ok (.getfield 43, 3) := by decide +kernel
theorem dX9_takeNumber_42 : decode cX9_takeNumber 42 = .ok (.istore_n 3, 1) := by decide +kernel
theorem dX9_takeNumber_43 : decode cX9_takeNumber 43 = .ok (.aload_n 0, 1) := by decide +kernel
theorem dX9_takeNumber_44 : decode cX9_takeNumber 44 = .ok (.invokevirtual 34, 3) := by decide +kernel
theorem dX9_takeNumber_47 : decode cX9_takeNumber 47 = .ok (.iload_n 3, 1) := by decide +kernel
theorem dX9_takeNumber_48 : decode cX9_takeNumber 48 = .ok (.ireturn, 1) := by decide +kernel
theorem dX10_init_0 : decode cX10_init 0 = .ok (.aload_n 0, 1) := by decide +kernel
theorem dX10_init_1 : decode cX10_init 1 = .ok (.invokespecial 3, 3) := by decide +kernel
theorem dX10_init_4 : decode cX10_init 4 = .ok (.aload_n 0, 1) := by decide +kernel
theorem dX10_init_5 : decode cX10_init 5 = .ok (.bipush 70, 2) := by decide +kernel
theorem dX10_init_7 : decode cX10_init 7 = .ok (.newarray .int, 2) := by decide +kernel
theorem dX10_init_9 : decode cX10_init 9 = .ok (.putfield 9, 3) := by decide +kernel
theorem dX10_init_12 : decode cX10_init 12 = .ok (.aload_n 0, 1) := by decide +kernel
theorem dX10_init_13 : decode cX10_init 13 = .ok (.bipush 6, 2) := by decide +kernel
theorem dX10_init_15 : decode cX10_init 15 = .ok (.newarray .int, 2) := by decide +kernel
theorem dX10_init_17 : decode cX10_init 17 = .ok (.putfield 15, 3) := by decide +kernel
theorem dX10_init_20 : decode cX10_init 20 = .ok (.aload_n 0, 1) := by decide +kernel
theorem dX10_init_21 : decode cX10_init 21 = .ok (.aload_n 1, 1) := by decide +kernel
theorem dX10_init_22 : decode cX10_init 22 = .ok (.putfield 18, 3) := by decide +kernel
theorem dX10_init_25 : decode cX10_init 25 = .ok (.aload_n 0, 1) := by decide +kernel
theorem dX10_init_26 : decode cX10_init 26 = .ok (.aload_n 2, 1) := by decide +kernel
theorem dX10_init_27 : decode cX10_init 27 = .ok (.putfield 22, 3) := by decide +kernel
theorem dX10_init_30 : decode cX10_init 30 = .ok (.return_, 1) := by decide +kernel
theorem dX10_refresh_0 : decode cX10_refresh 0 = .ok (.iconst 0, 1) := by decide +kernel
theorem dX10_refresh_1 : decode cX10_refresh 1 = .ok (.istore_n 1, 1) := by decide +kernel
theorem dX10_refresh_2 : decode cX10_refresh 2 = .ok (.iload_n 1, 1) := by decide +kernel
theorem dX10_refresh_3 : decode cX10_refresh 3 = .ok (.aload_n 0, 1) := by decide +kernel
theorem dX10_refresh_4 : decode cX10_refresh 4 = .ok (.getfield 18, 3) := by decide +kernel
theorem dX10_refresh_7 : decode cX10_refresh 7 = .ok (.getfield 26, 3) := by decide +kernel
theorem dX10_refresh_10 : decode cX10_refresh 10 = .ok (.if_icmp .ge 82, 3) := by decide +kernel
theorem dX10_refresh_13 : decode cX10_refresh 13 = .ok (.iconst 0, 1) := by decide +kernel
theorem dX10_refresh_14 : decode cX10_refresh 14 = .ok (.istore_n 2, 1) := by decide +kernel
theorem dX10_refresh_15 : decode cX10_refresh 15 = .ok (.iload_n 2, 1) := by decide +kernel
theorem dX10_refresh_16 : decode cX10_refresh 16 = .ok (.bipush 7, 2) := by decide +kernel
theorem dX10_refresh_18 : decode cX10_refresh 18 = .ok (.if_icmp .ge 68, 3) := by decide +kernel
theorem dX10_refresh_21 : decode cX10_refresh 21 = .ok (.aload_n 0, 1) := by decide +kernel
theorem dX10_refresh_22 : decode cX10_refresh 22 = .ok (.getfield 22, 3) := by decide +kernel
theorem dX10_refresh_25 : decode cX10_refresh 25 = .ok (.iload_n 1, 1) := by decide +kernel
theorem dX10_refresh_26 : decode cX10_refresh 26 = .ok (.iload_n 2, 1) := by decide +kernel
theorem dX10_refresh_27 : decode cX10_refresh 27 = .ok (.invokevirtual 32, 3) := by decide +kernel
theorem dX10_refresh_30 : decode cX10_refresh 30 = .ok (.istore_n 3, 1) := by decide +kernel
theorem dX10_refresh_31 : decode cX10_refresh 31 = .ok (.iload_n 3, 1) := by decide +kernel
theorem dX10_refresh_32 : decode cX10_refresh 32 = .ok (.ifCond .lt 18, 3) := by decide +kernel
theorem dX10_refresh_35 : decode cX10_refresh 35 = .ok (.iload_n 3, 1) := by decide +kernel
theorem dX10_refresh_36 : decode cX10_refresh 36 = .ok (.aload_n 0, 1) := by decide +kernel
theorem dX10_refresh_37 : decode cX10_refresh 37 = .ok (.getfield 18, 3) := by decide +kernel
theorem dX10_refresh_40 : decode cX10_refresh 40 = .ok (.getfield 38, 3) := by decide +kernel
theorem dX10_refresh_43 : decode cX10_refresh 43 = .ok (.if_icmp .ge 7, 3) := by decide +kernel
theorem dX10_refresh_46 : decode cX10_refresh 46 = .ok (.iconst 1, 1) := by decide +kernel
theorem dX10_refresh_47 : decode cX10_refresh 47 = .ok (.goto 4, 3) := by decide +kernel
theorem dX10_refresh_50 : decode cX10_refresh 50 = .ok (.iconst 0, 1) := by decide +kernel
theorem dX10_refresh_51 : decode cX10_refresh 51 = .ok (.istore 4, 2) := by decide +kernel
theorem dX10_refresh_53 : decode cX10_refresh 53 = .ok (.aload_n 0, 1) := by decide +kernel
theorem dX10_refresh_54 : decode cX10_refresh 54 = .ok (.getfield 9, 3) := by decide +kernel
theorem dX10_refresh_57 : decode cX10_refresh 57 = .ok (.iload_n 1, 1) := by decide +kernel
theorem dX10_refresh_58 : decode cX10_refresh 58 = .ok (.bipush 7, 2) := by decide +kernel
theorem dX10_refresh_60 : decode cX10_refresh 60 = .ok (.imul, 1) := by decide +kernel
theorem dX10_refresh_61 : decode cX10_refresh 61 = .ok (.iload_n 2, 1) := by decide +kernel
theorem dX10_refresh_62 : decode cX10_refresh 62 = .ok (.iadd, 1) := by decide +kernel
theorem dX10_refresh_63 : decode cX10_refresh 63 = .ok (.iload 4, 2) := by decide +kernel
theorem dX10_refresh_65 : decode cX10_refresh 65 = .ok (.ifCond .eq 13, 3) := by decide +kernel
theorem dX10_refresh_68 : decode cX10_refresh 68 = .ok (.aload_n 0, 1) := by decide +kernel
theorem dX10_refresh_69 : decode cX10_refresh 69 = .ok (.iload_n 1, 1) := by decide +kernel
theorem dX10_refresh_70 : decode cX10_refresh 70 = .ok (.iload_n 3, 1) := by decide +kernel
theorem dX10_refresh_71 : decode cX10_refresh 71 = .ok (.iload_n 2, 1) := by decide +kernel
theorem dX10_refresh_72 : decode cX10_refresh 72 = .ok (.invokevirtual 41, 3) := by decide +kernel
theorem dX10_refresh_75 : decode cX10_refresh 75 = .ok (.goto 4, 3) := by decide +kernel
theorem dX10_refresh_78 : decode cX10_refresh 78 = .ok (.iconst 0, 1) := by decide +kernel
theorem dX10_refresh_79 : decode cX10_refresh 79 = .ok (.iastore, 1) := by decide +kernel
theorem dX10_refresh_80 : decode cX10_refresh 80 = .ok (.iinc 2 1, 3) := by decide +kernel
theorem dX10_refresh_83 : decode cX10_refresh 83 = .ok (.goto (-68), 3) := by decide +kernel
theorem dX10_refresh_86 : decode cX10_refresh 86 = .ok (.iinc 1 1, 3) := by decide +kernel
theorem dX10_refresh_89 : decode cX10_refresh 89 = .ok (.goto (-87), 3) := by decide +kernel
theorem dX10_refresh_92 : decode cX10_refresh 92 = .ok (.return_, 1) := by decide +kernel
theorem dX10_expectedVisitors_0 : decode cX10_expectedVisitors 0 = .ok (.aload_n 0, 1) := by decide +kernel
theorem dX10_expectedVisitors_1 : decode cX10_expectedVisitors 1 = .ok (.getfield 22, 3) := by decide +kernel
theorem dX10_expectedVisitors_4 : decode cX10_expectedVisitors 4 = .ok (.getfield 45, 3) := by decide +kernel
theorem dX10_expectedVisitors_7 : decode cX10_expectedVisitors 7 = .ok (.iload_n 2, 1) := by decide +kernel
theorem dX10_expectedVisitors_8 : decode cX10_expectedVisitors 8 = .ok (.iaload, 1) := by decide +kernel
theorem dX10_expectedVisitors_9 : decode cX10_expectedVisitors 9 = .ok (.istore 4, 2) := by decide +kernel
theorem dX10_expectedVisitors_11 : decode cX10_expectedVisitors 11 = .ok (.iconst 0, 1) := by decide +kernel
theorem dX10_expectedVisitors_12 : decode cX10_expectedVisitors 12 = .ok (.istore 5, 2) := by decide +kernel
theorem dX10_expectedVisitors_14 : decode cX10_expectedVisitors 14 = .ok (.iload 5, 2) := by decide +kernel
theorem dX10_expectedVisitors_16 : decode cX10_expectedVisitors 16 = .ok (.aload_n 0, 1) := by decide +kernel
theorem dX10_expectedVisitors_17 : decode cX10_expectedVisitors 17 = .ok (.getfield 18, 3) := by decide +kernel
theorem dX10_expectedVisitors_20 : decode cX10_expectedVisitors 20 = .ok (.getfield 26, 3) := by decide +kernel
theorem dX10_expectedVisitors_23 : decode cX10_expectedVisitors 23 = .ok (.if_icmp .ge 47, 3) := by decide +kernel
theorem dX10_expectedVisitors_26 : decode cX10_expectedVisitors 26 = .ok (.aload_n 0, 1) := by decide +kernel
theorem dX10_expectedVisitors_27 : decode cX10_expectedVisitors 27 = .ok (.iload 5, 2) := by decide +kernel
theorem dX10_expectedVisitors_29 : decode cX10_expectedVisitors 29 = .ok (.iload_n 1, 1) := by decide +kernel
theorem dX10_expectedVisitors_30 : decode cX10_expectedVisitors 30 = .ok (.invokevirtual 48, 3) := by decide +kernel
theorem dX10_expectedVisitors_33 : decode cX10_expectedVisitors 33 = .ok (.ifCond .eq 31, 3) := by decide +kernel
theorem dX10_expectedVisitors_36 : decode cX10_expectedVisitors 36 = .ok (.aload_n 0, 1) := by decide +kernel
theorem dX10_expectedVisitors_37 : decode cX10_expectedVisitors 37 = .ok (.getfield 22, 3) := by decide +kernel
theorem dX10_expectedVisitors_40 : decode cX10_expectedVisitors 40 = .ok (.iload 5, 2) := by decide +kernel
theorem dX10_expectedVisitors_42 : decode cX10_expectedVisitors 42 = .ok (.iload_n 3, 1) := by decide +kernel
theorem dX10_expectedVisitors_43 : decode cX10_expectedVisitors 43 = .ok (.invokevirtual 32, 3) := by decide +kernel
theorem dX10_expectedVisitors_46 : decode cX10_expectedVisitors 46 = .ok (.iload_n 2, 1) := by decide +kernel
theorem dX10_expectedVisitors_47 : decode cX10_expectedVisitors 47 = .ok (.if_icmp .ne 17, 3) := by decide +kernel
theorem dX10_expectedVisitors_50 : decode cX10_expectedVisitors 50 = .ok (.iload 4, 2) := by decide +kernel
theorem dX10_expectedVisitors_52 : decode cX10_expectedVisitors 52 = .ok (.aload_n 0, 1) := by decide +kernel
theorem dX10_expectedVisitors_53 : decode cX10_expectedVisitors 53 = .ok (.getfield 18, 3) := by decide +kernel
theorem dX10_expectedVisitors_56 : decode cX10_expectedVisitors 56 = .ok (.iload 5, 2) := by decide +kernel
theorem dX10_expectedVisitors_58 : decode cX10_expectedVisitors 58 = .ok (.invokevirtual 52, 3) := by decide +kernel
theorem dX10_expectedVisitors_61 : decode cX10_expectedVisitors 61 = .ok (.isub, 1) := by decide +kernel
theorem dX10_expectedVisitors_62 : decode cX10_expectedVisitors 62 = .ok (.istore 4, 2) := by decide +kernel
theorem dX10_expectedVisitors_64 : decode cX10_expectedVisitors 64 = .ok (.iinc 5 1, 3) := by decide +kernel
theorem dX10_expectedVisitors_67 : decode cX10_expectedVisitors 67 = .ok (.goto (-53), 3) := by decide +kernel
theorem dX10_expectedVisitors_70 : decode cX10_expectedVisitors 70 = .ok (.iconst 0, 1) := by decide +kernel
theorem dX10_expectedVisitors_71 : decode cX10_expectedVisitors 71 = .ok (.iload 4, 2) := by decide +kernel
theorem dX10_expectedVisitors_73 : decode cX10_expectedVisitors 73 = .ok (.aload_n 0, 1) := by decide +kernel
theorem dX10_expectedVisitors_74 : decode cX10_expectedVisitors 74 = .ok (.getfield 18, 3) := by decide +kernel
theorem dX10_expectedVisitors_77 : decode cX10_expectedVisitors 77 = .ok (.iload_n 1, 1) := by decide +kernel
theorem dX10_expectedVisitors_78 : decode cX10_expectedVisitors 78 = .ok (.invokevirtual 52, 3) := by decide +kernel
theorem dX10_expectedVisitors_81 : decode cX10_expectedVisitors 81 = .ok (.invokestatic 56, 3) := by decide +kernel
theorem dX10_expectedVisitors_84 : decode cX10_expectedVisitors 84 = .ok (.invokestatic 61, 3) := by decide +kernel
theorem dX10_expectedVisitors_87 : decode cX10_expectedVisitors 87 = .ok (.ireturn, 1) := by decide +kernel
theorem dX10_isServedBefore_0 : decode cX10_isServedBefore 0 = .ok (.iload_n 1, 1) := by decide +kernel
theorem dX10_isServedBefore_1 : decode cX10_isServedBefore 1 = .ok (.iload_n 2, 1) := by decide +kernel
theorem dX10_isServedBefore_2 : decode cX10_isServedBefore 2 = .ok (.if_icmp .eq 24, 3) := by decide +kernel
theorem dX10_isServedBefore_5 : decode cX10_isServedBefore 5 = .ok (.aload_n 0, 1) := by decide +kernel
theorem dX10_isServedBefore_6 : decode cX10_isServedBefore 6 = .ok (.getfield 18, 3) := by decide +kernel
theorem dX10_isServedBefore_9 : decode cX10_isServedBefore 9 = .ok (.getfield 64, 3) := by decide +kernel
theorem dX10_isServedBefore_12 : decode cX10_isServedBefore 12 = .ok (.iload_n 1, 1) := by decide +kernel
theorem dX10_isServedBefore_13 : decode cX10_isServedBefore 13 = .ok (.iaload, 1) := by decide +kernel
theorem dX10_isServedBefore_14 : decode cX10_isServedBefore 14 = .ok (.aload_n 0, 1) := by decide +kernel
theorem dX10_isServedBefore_15 : decode cX10_isServedBefore 15 = .ok (.getfield 18, 3) := by decide +kernel
theorem dX10_isServedBefore_18 : decode cX10_isServedBefore 18 = .ok (.getfield 64, 3) := by decide +kernel
theorem dX10_isServedBefore_21 : decode cX10_isServedBefore 21 = .ok (.iload_n 2, 1) := by decide +kernel
theorem dX10_isServedBefore_22 : decode cX10_isServedBefore 22 = .ok (.iaload, 1) := by decide +kernel
theorem dX10_isServedBefore_23 : decode cX10_isServedBefore 23 = .ok (.if_icmp .eq 5, 3) := by decide +kernel
theorem dX10_isServedBefore_26 : decode cX10_isServedBefore 26 = .ok (.iconst 0, 1) := by decide +kernel
theorem dX10_isServedBefore_27 : decode cX10_isServedBefore 27 = .ok (.ireturn, 1) := by decide +kernel
theorem dX10_isServedBefore_28 : decode cX10_isServedBefore 28 = .ok (.aload_n 0, 1) := by decide +kernel
theorem dX10_isServedBefore_29 : decode cX10_isServedBefore 29 = .ok (.getfield 18, 3) := by decide +kernel
theorem dX10_isServedBefore_32 : decode cX10_isServedBefore 32 = .ok (.iload_n 1, 1) := by decide +kernel
theorem dX10_isServedBefore_33 : decode cX10_isServedBefore 33 = .ok (.invokevirtual 52, 3) := by decide +kernel
theorem dX10_isServedBefore_36 : decode cX10_isServedBefore 36 = .ok (.aload_n 0, 1) := by decide +kernel
theorem dX10_isServedBefore_37 : decode cX10_isServedBefore 37 = .ok (.getfield 18, 3) := by decide +kernel
theorem dX10_isServedBefore_40 : decode cX10_isServedBefore 40 = .ok (.iload_n 2, 1) := by decide +kernel
theorem dX10_isServedBefore_41 : decode cX10_isServedBefore 41 = .ok (.invokevirtual 52, 3) := by decide +kernel
theorem dX10_isServedBefore_44 : decode cX10_isServedBefore 44 = .ok (.isub, 1) := by decide +kernel
theorem dX10_isServedBefore_45 : decode cX10_isServedBefore 45 = .ok (.istore_n 3, 1) := by decide +kernel
theorem dX10_isServedBefore_46 : decode cX10_isServedBefore 46 = .ok (.iload_n 3, 1) := by decide +kernel
theorem dX10_isServedBefore_47 : decode cX10_isServedBefore 47 = .ok (.ifCond .gt 12, 3) := by decide +kernel
theorem dX10_isServedBefore_50 : decode cX10_isServedBefore 50 = .ok (.iload_n 3, 1) := by decide +kernel
theorem dX10_isServedBefore_51 : decode cX10_isServedBefore 51 = .ok (.ifCond .ne 12, 3) := by decide +kernel
theorem dX10_isServedBefore_54 : decode cX10_isServedBefore 54 = .ok (.iload_n 1, 1) := by decide +kernel
theorem dX10_isServedBefore_55 : decode cX10_isServedBefore 55 = .ok (.iload_n 2, 1) := by decide +kernel
theorem dX10_isServedBefore_56 : decode cX10_isServedBefore 56 = .ok (.if_icmp .ge 7, 3) := by decide +kernel
theorem dX10_isServedBefore_59 : decode cX10_isServedBefore 59 = .ok (.iconst 1, 1) := by decide +kernel
theorem dX10_isServedBefore_60 : decode cX10_isServedBefore 60 = .ok (.goto 4, 3) := by decide +kernel
theorem dX10_isServedBefore_63 : decode cX10_isServedBefore 63 = .ok (.iconst 0, 1) := by decide +kernel
theorem dX10_isServedBefore_64 : decode cX10_isServedBefore 64 = .ok (.ireturn, 1) := by decide +kernel
theorem dX10_visitorsOn_0 : decode cX10_visitorsOn 0 = .ok (.aload_n 0, 1) := by decide +kernel
theorem dX10_visitorsOn_1 : decode cX10_visitorsOn 1 = .ok (.getfield 9, 3) := by decide +kernel
theorem dX10_visitorsOn_4 : decode cX10_visitorsOn 4 = .ok (.iload_n 1, 1) := by decide +kernel
theorem dX10_visitorsOn_5 : decode cX10_visitorsOn 5 = .ok (.bipush 7, 2) := by decide +kernel
theorem dX10_visitorsOn_7 : decode cX10_visitorsOn 7 = .ok (.imul, 1) := by decide +kernel
theorem dX10_visitorsOn_8 : decode cX10_visitorsOn 8 = .ok (.iload_n 2, 1) := by decide +kernel
theorem dX10_visitorsOn_9 : decode cX10_visitorsOn 9 = .ok (.iadd, 1) := by decide +kernel
theorem dX10_visitorsOn_10 : decode cX10_visitorsOn 10 = .ok (.iaload, 1) := by decide +kernel
theorem dX10_visitorsOn_11 : decode cX10_visitorsOn 11 = .ok (.ireturn, 1) := by decide +kernel
theorem dX10_visitorsSince_0 : decode cX10_visitorsSince 0 = .ok (.iconst 0, 1) := by decide +kernel
theorem dX10_visitorsSince_1 : decode cX10_visitorsSince 1 = .ok (.istore_n 3, 1) := by decide +kernel
theorem dX10_visitorsSince_2 : decode cX10_visitorsSince 2 = .ok (.iload_n 2, 1) := by decide +kernel
theorem dX10_visitorsSince_3 : decode cX10_visitorsSince 3 = .ok (.istore 4, 2) := by decide +kernel
theorem dX10_visitorsSince_5 : decode cX10_visitorsSince 5 = .ok (.iload 4, 2) := by decide +kernel
theorem dX10_visitorsSince_7 : decode cX10_visitorsSince 7 = .ok (.bipush 7, 2) := by decide +kernel
theorem dX10_visitorsSince_9 : decode cX10_visitorsSince 9 = .ok (.if_icmp .ge 24, 3) := by decide +kernel
theorem dX10_visitorsSince_12 : decode cX10_visitorsSince 12 = .ok (.iload_n 3, 1) := by decide +kernel
theorem dX10_visitorsSince_13 : decode cX10_visitorsSince 13 = .ok (.aload_n 0, 1) := by decide +kernel
theorem dX10_visitorsSince_14 : decode cX10_visitorsSince 14 = .ok (.getfield 9, 3) := by decide +kernel
theorem dX10_visitorsSince_17 : decode cX10_visitorsSince 17 = .ok (.iload_n 1, 1) := by decide +kernel
theorem dX10_visitorsSince_18 : decode cX10_visitorsSince 18 = .ok (.bipush 7, 2) := by decide +kernel
theorem dX10_visitorsSince_20 : decode cX10_visitorsSince 20 = .ok (.imul, 1) := by decide +kernel
theorem dX10_visitorsSince_21 : decode cX10_visitorsSince 21 = .ok (.iload 4, 2) := by decide +kernel
theorem dX10_visitorsSince_23 : decode cX10_visitorsSince 23 = .ok (.iadd, 1) := by decide +kernel
theorem dX10_visitorsSince_24 : decode cX10_visitorsSince 24 = .ok (.iaload, 1) := by decide +kernel
theorem dX10_visitorsSince_25 : decode cX10_visitorsSince 25 = .ok (.iadd, 1) := by decide +kernel
theorem dX10_visitorsSince_26 : decode cX10_visitorsSince 26 = .ok (.istore_n 3, 1) := by decide +kernel
theorem dX10_visitorsSince_27 : decode cX10_visitorsSince 27 = .ok (.iinc 4 1, 3) := by decide +kernel
theorem dX10_visitorsSince_30 : decode cX10_visitorsSince 30 = .ok (.goto (-25), 3) := by decide +kernel
theorem dX10_visitorsSince_33 : decode cX10_visitorsSince 33 = .ok (.iload_n 3, 1) := by decide +kernel
theorem dX10_visitorsSince_34 : decode cX10_visitorsSince 34 = .ok (.ireturn, 1) := by decide +kernel
theorem dX10_screenTakings_0 : decode cX10_screenTakings 0 = .ok (.aload_n 0, 1) := by decide +kernel
theorem dX10_screenTakings_1 : decode cX10_screenTakings 1 = .ok (.iload_n 1, 1) := by decide +kernel
theorem dX10_screenTakings_2 : decode cX10_screenTakings 2 = .ok (.iconst 0, 1) := by decide +kernel
theorem dX10_screenTakings_3 : decode cX10_screenTakings 3 = .ok (.invokevirtual 70, 3) := by decide +kernel
theorem dX10_screenTakings_6 : decode cX10_screenTakings 6 = .ok (.aload_n 0, 1) := by decide +kernel
theorem dX10_screenTakings_7 : decode cX10_screenTakings 7 = .ok (.getfield 18, 3) := by decide +kernel
theorem dX10_screenTakings_10 : decode cX10_screenTakings 10 = .ok (.iload_n 1, 1) := by decide +kernel
theorem dX10_screenTakings_11 : decode cX10_screenTakings 11 = .ok (.invokevirtual 67, 3) := by decide +kernel
theorem dX10_screenTakings_14 : decode cX10_screenTakings 14 = .ok (.imul, 1) := by decide +kernel
theorem dX10_screenTakings_15 : decode cX10_screenTakings 15 = .ok (.ireturn, 1) := by decide +kernel
theorem dX10_allTakings_0 : decode cX10_allTakings 0 = .ok (.iconst 0, 1) := by decide +kernel
theorem dX10_allTakings_1 : decode cX10_allTakings 1 = .ok (.istore_n 1, 1) := by decide +kernel
theorem dX10_allTakings_2 : decode cX10_allTakings 2 = .ok (.iconst 0, 1) := by decide +kernel
theorem dX10_allTakings_3 : decode cX10_allTakings 3 = .ok (.istore_n 2, 1) := by decide +kernel
theorem dX10_allTakings_4 : decode cX10_allTakings 4 = .ok (.iload_n 2, 1) := by decide +kernel
theorem dX10_allTakings_5 : decode cX10_allTakings 5 = .ok (.aload_n 0, 1) := by decide +kernel
theorem dX10_allTakings_6 : decode cX10_allTakings 6 = .ok (.getfield 18, 3) := by decide +kernel
theorem dX10_allTakings_9 : decode cX10_allTakings 9 = .ok (.getfield 26, 3) := by decide +kernel
theorem dX10_allTakings_12 : decode cX10_allTakings 12 = .ok (.if_icmp .ge 17, 3) := by decide +kernel
theorem dX10_allTakings_15 : decode cX10_allTakings 15 = .ok (.iload_n 1, 1) := by decide +kernel
theorem dX10_allTakings_16 : decode cX10_allTakings 16 = .ok (.aload_n 0, 1) := by decide +kernel
theorem dX10_allTakings_17 : decode cX10_allTakings 17 = .ok (.iload_n 2, 1) := by decide +kernel
theorem dX10_allTakings_18 : decode cX10_allTakings 18 = .ok (.invokevirtual 73, 3) := by decide +kernel
theorem dX10_allTakings_21 : decode cX10_allTakings 21 = .ok (.iadd, 1) := by decide +kernel
theorem dX10_allTakings_22 : decode cX10_allTakings 22 = .ok (.istore_n 1, 1) := by decide +kernel
theorem dX10_allTakings_23 : decode cX10_allTakings 23 = .ok (.iinc 2 1, 3) := by decide +kernel
theorem dX10_allTakings_26 : decode cX10_allTakings 26 = .ok (.goto (-22), 3) := by decide +kernel
theorem dX10_allTakings_29 : decode cX10_allTakings 29 = .ok (.iload_n 1, 1) := by decide +kernel
theorem dX10_allTakings_30 : decode cX10_allTakings 30 = .ok (.ireturn, 1) := by decide +kernel
theorem dX10_houseTakings_0 : decode cX10_houseTakings 0 = .ok (.iconst 0, 1) := by decide +kernel
theorem dX10_houseTakings_1 : decode cX10_houseTakings 1 = .ok (.istore_n 2, 1) := by decide +kernel
theorem dX10_houseTakings_2 : decode cX10_houseTakings 2 = .ok (.iconst 0, 1) := by decide +kernel
theorem dX10_houseTakings_3 : decode cX10_houseTakings 3 = .ok (.istore_n 3, 1) := by decide +kernel
theorem dX10_houseTakings_4 : decode cX10_houseTakings 4 = .ok (.iload_n 3, 1) := by decide +kernel
theorem dX10_houseTakings_5 : decode cX10_houseTakings 5 = .ok (.aload_n 0, 1) := by decide +kernel
theorem dX10_houseTakings_6 : decode cX10_houseTakings 6 = .ok (.getfield 18, 3) := by decide +kernel
theorem dX10_houseTakings_9 : decode cX10_houseTakings 9 = .ok (.getfield 26, 3) := by decide +kernel
theorem dX10_houseTakings_12 : decode cX10_houseTakings 12 = .ok (.if_icmp .ge 30, 3) := by decide +kernel
theorem dX10_houseTakings_15 : decode cX10_houseTakings 15 = .ok (.aload_n 0, 1) := by decide +kernel
theorem dX10_houseTakings_16 : decode cX10_houseTakings 16 = .ok (.getfield 18, 3) := by decide +kernel
theorem dX10_houseTakings_19 : decode cX10_houseTakings 19 = .ok (.getfield 64, 3) := by decide +kernel
theorem dX10_houseTakings_22 : decode cX10_houseTakings 22 = .ok (.iload_n 3, 1) := by decide +kernel
theorem dX10_houseTakings_23 : decode cX10_houseTakings 23 = .ok (.iaload, 1) := by decide +kernel
theorem dX10_houseTakings_24 : decode cX10_houseTakings 24 = .ok (.iload_n 1, 1) := by decide +kernel
theorem dX10_houseTakings_25 : decode cX10_houseTakings 25 = .ok (.if_icmp .ne 11, 3) := by decide +kernel
theorem dX10_houseTakings_28 : decode cX10_houseTakings 28 = .ok (.iload_n 2, 1) := by decide +kernel
theorem dX10_houseTakings_29 : decode cX10_houseTakings 29 = .ok (.aload_n 0, 1) := by decide +kernel
theorem dX10_houseTakings_30 : decode cX10_houseTakings 30 = .ok (.iload_n 3, 1) := by decide +kernel
theorem dX10_houseTakings_31 : decode cX10_houseTakings 31 = .ok (.invokevirtual 73, 3) := by decide +kernel
theorem dX10_houseTakings_34 : decode cX10_houseTakings 34 = .ok (.iadd, 1) := by decide +kernel
theorem dX10_houseTakings_35 : decode cX10_houseTakings 35 = .ok (.istore_n 2, 1) := by decide +kernel
theorem dX10_houseTakings_36 : decode cX10_houseTakings 36 = .ok (.iinc 3 1, 3) := by decide +kernel
theorem dX10_houseTakings_39 : decode cX10_houseTakings 39 = .ok (.goto (-35), 3) := by decide +kernel
theorem dX10_houseTakings_42 : decode cX10_houseTakings 42 = .ok (.iload_n 2, 1) := by decide +kernel
theorem dX10_houseTakings_43 : decode cX10_houseTakings 43 = .ok (.ireturn, 1) := by decide +kernel
theorem dX10_houseRents_0 : decode cX10_houseRents 0 = .ok (.iconst 0, 1) := by decide +kernel
theorem dX10_houseRents_1 : decode cX10_houseRents 1 = .ok (.istore_n 2, 1) := by decide +kernel
theorem dX10_houseRents_2 : decode cX10_houseRents 2 = .ok (.iconst 0, 1) := by decide +kernel
theorem dX10_houseRents_3 : decode cX10_houseRents 3 = .ok (.istore_n 3, 1) := by decide +kernel
theorem dX10_houseRents_4 : decode cX10_houseRents 4 = .ok (.iload_n 3, 1) := by decide +kernel
theorem dX10_houseRents_5 : decode cX10_houseRents 5 = .ok (.aload_n 0, 1) := by decide +kernel
theorem dX10_houseRents_6 : decode cX10_houseRents 6 = .ok (.getfield 18, 3) := by decide +kernel
theorem dX10_houseRents_9 : decode cX10_houseRents 9 = .ok (.getfield 26, 3) := by decide +kernel
theorem dX10_houseRents_12 : decode cX10_houseRents 12 = .ok (.if_icmp .ge 34, 3) := by decide +kernel
theorem dX10_houseRents_15 : decode cX10_houseRents 15 = .ok (.aload_n 0, 1) := by decide +kernel
theorem dX10_houseRents_16 : decode cX10_houseRents 16 = .ok (.getfield 18, 3) := by decide +kernel
theorem dX10_houseRents_19 : decode cX10_houseRents 19 = .ok (.getfield 64, 3) := by decide +kernel
theorem dX10_houseRents_22 : decode cX10_houseRents 22 = .ok (.iload_n 3, 1) := by decide +kernel
theorem dX10_houseRents_23 : decode cX10_houseRents 23 = .ok (.iaload, 1) := by decide +kernel
theorem dX10_houseRents_24 : decode cX10_houseRents 24 = .ok (.iload_n 1, 1) := by decide +kernel
theorem dX10_houseRents_25 : decode cX10_houseRents 25 = .ok (.if_icmp .ne 15, 3) := by decide +kernel
theorem dX10_houseRents_28 : decode cX10_houseRents 28 = .ok (.iload_n 2, 1) := by decide +kernel
theorem dX10_houseRents_29 : decode cX10_houseRents 29 = .ok (.aload_n 0, 1) := by decide +kernel
theorem dX10_houseRents_30 : decode cX10_houseRents 30 = .ok (.getfield 22, 3) := by decide +kernel
theorem dX10_houseRents_33 : decode cX10_houseRents 33 = .ok (.getfield 76, 3) := by decide +kernel
theorem dX10_houseRents_36 : decode cX10_houseRents 36 = .ok (.iload_n 3, 1) := by decide +kernel
theorem dX10_houseRents_37 : decode cX10_houseRents 37 = .ok (.iaload, 1) := by decide +kernel
theorem dX10_houseRents_38 : decode cX10_houseRents 38 = .ok (.iadd, 1) := by decide +kernel
theorem dX10_houseRents_39 : decode cX10_houseRents 39 = .ok (.istore_n 2, 1) := by decide +kernel
theorem dX10_houseRents_40 : decode cX10_houseRents 40 = .ok (.iinc 3 1, 3) := by decide +kernel
theorem dX10_houseRents_43 : decode cX10_houseRents 43 = .ok (.goto (-39), 3) := by decide +kernel
theorem dX10_houseRents_46 : decode cX10_houseRents 46 = .ok (.iload_n 2, 1) := by decide +kernel
theorem dX10_houseRents_47 : decode cX10_houseRents 47 = .ok (.ireturn, 1) := by decide +kernel
theorem dX10_filmTakingsIn_0 : decode cX10_filmTakingsIn 0 = .ok (.iconst 0, 1) := by decide +kernel
theorem dX10_filmTakingsIn_1 : decode cX10_filmTakingsIn 1 = .ok (.istore_n 3, 1) := by decide +kernel
theorem dX10_filmTakingsIn_2 : decode cX10_filmTakingsIn 2 = .ok (.iconst 0, 1) := by decide +kernel
theorem dX10_filmTakingsIn_3 : decode cX10_filmTakingsIn 3 = .ok (.istore 4, 2) := by decide +kernel
theorem dX10_filmTakingsIn_5 : decode cX10_filmTakingsIn 5 = .ok (.iload 4, 2) := by decide +kernel
theorem dX10_filmTakingsIn_7 : decode cX10_filmTakingsIn 7 = .ok (.aload_n 0, 1) := by decide +kernel
theorem dX10_filmTakingsIn_8 : decode cX10_filmTakingsIn 8 = .ok (.getfield 18, 3) := by decide +kernel
theorem dX10_filmTakingsIn_11 : decode cX10_filmTakingsIn 11 = .ok (.getfield 26, 3) := by decide +kernel
theorem dX10_filmTakingsIn_14 : decode cX10_filmTakingsIn 14 = .ok (.if_icmp .ge 33, 3) := by decide +kernel
theorem dX10_filmTakingsIn_17 : decode cX10_filmTakingsIn 17 = .ok (.aload_n 0, 1) := by decide +kernel
theorem dX10_filmTakingsIn_18 : decode cX10_filmTakingsIn 18 = .ok (.getfield 18, 3) := by decide +kernel
theorem dX10_filmTakingsIn_21 : decode cX10_filmTakingsIn 21 = .ok (.getfield 64, 3) := by decide +kernel
theorem dX10_filmTakingsIn_24 : decode cX10_filmTakingsIn 24 = .ok (.iload 4, 2) := by decide +kernel
theorem dX10_filmTakingsIn_26 : decode cX10_filmTakingsIn 26 = .ok (.iaload, 1) := by decide +kernel
theorem dX10_filmTakingsIn_27 : decode cX10_filmTakingsIn 27 = .ok (.iload_n 1, 1) := by decide +kernel
theorem dX10_filmTakingsIn_28 : decode cX10_filmTakingsIn 28 = .ok (.if_icmp .ne 13, 3) := by decide +kernel
theorem dX10_filmTakingsIn_31 : decode cX10_filmTakingsIn 31 = .ok (.iload_n 3, 1) := by decide +kernel
theorem dX10_filmTakingsIn_32 : decode cX10_filmTakingsIn 32 = .ok (.aload_n 0, 1) := by decide +kernel
theorem dX10_filmTakingsIn_33 : decode cX10_filmTakingsIn 33 = .ok (.iload 4, 2) := by decide +kernel
theorem dX10_filmTakingsIn_35 : decode cX10_filmTakingsIn 35 = .ok (.iload_n 2, 1) := by decide +kernel
theorem dX10_filmTakingsIn_36 : decode cX10_filmTakingsIn 36 = .ok (.invokevirtual 79, 3) := by decide +kernel
theorem dX10_filmTakingsIn_39 : decode cX10_filmTakingsIn 39 = .ok (.iadd, 1) := by decide +kernel
theorem dX10_filmTakingsIn_40 : decode cX10_filmTakingsIn 40 = .ok (.istore_n 3, 1) := by decide +kernel
theorem dX10_filmTakingsIn_41 : decode cX10_filmTakingsIn 41 = .ok (.iinc 4 1, 3) := by decide +kernel
theorem dX10_filmTakingsIn_44 : decode cX10_filmTakingsIn 44 = .ok (.goto (-39), 3) := by decide +kernel
theorem dX10_filmTakingsIn_47 : decode cX10_filmTakingsIn 47 = .ok (.iload_n 3, 1) := by decide +kernel
theorem dX10_filmTakingsIn_48 : decode cX10_filmTakingsIn 48 = .ok (.aload_n 0, 1) := by decide +kernel
theorem dX10_filmTakingsIn_49 : decode cX10_filmTakingsIn 49 = .ok (.getfield 18, 3) := by decide +kernel
theorem dX10_filmTakingsIn_52 : decode cX10_filmTakingsIn 52 = .ok (.getfield 82, 3) := by decide +kernel
theorem dX10_filmTakingsIn_55 : decode cX10_filmTakingsIn 55 = .ok (.iload_n 1, 1) := by decide +kernel
theorem dX10_filmTakingsIn_56 : decode cX10_filmTakingsIn 56 = .ok (.iaload, 1) := by decide +kernel
theorem dX10_filmTakingsIn_57 : decode cX10_filmTakingsIn 57 = .ok (.imul, 1) := by decide +kernel
theorem dX10_filmTakingsIn_58 : decode cX10_filmTakingsIn 58 = .ok (.ireturn, 1) := by decide +kernel
theorem dX10_filmVisitorsOn_0 : decode cX10_filmVisitorsOn 0 = .ok (.iconst 0, 1) := by decide +kernel
theorem dX10_filmVisitorsOn_1 : decode cX10_filmVisitorsOn 1 = .ok (.istore_n 3, 1) := by decide +kernel
theorem dX10_filmVisitorsOn_2 : decode cX10_filmVisitorsOn 2 = .ok (.iconst 0, 1) := by decide +kernel
theorem dX10_filmVisitorsOn_3 : decode cX10_filmVisitorsOn 3 = .ok (.istore 4, 2) := by decide +kernel
theorem dX10_filmVisitorsOn_5 : decode cX10_filmVisitorsOn 5 = .ok (.iload 4, 2) := by decide +kernel
theorem dX10_filmVisitorsOn_7 : decode cX10_filmVisitorsOn 7 = .ok (.bipush 7, 2) := by decide +kernel
theorem dX10_filmVisitorsOn_9 : decode cX10_filmVisitorsOn 9 = .ok (.if_icmp .ge 33, 3) := by decide +kernel
theorem dX10_filmVisitorsOn_12 : decode cX10_filmVisitorsOn 12 = .ok (.aload_n 0, 1) := by decide +kernel
theorem dX10_filmVisitorsOn_13 : decode cX10_filmVisitorsOn 13 = .ok (.getfield 22, 3) := by decide +kernel
theorem dX10_filmVisitorsOn_16 : decode cX10_filmVisitorsOn 16 = .ok (.iload_n 1, 1) := by decide +kernel
theorem dX10_filmVisitorsOn_17 : decode cX10_filmVisitorsOn 17 = .ok (.iload 4, 2) := by decide +kernel
theorem dX10_filmVisitorsOn_19 : decode cX10_filmVisitorsOn 19 = .ok (.invokevirtual 32, 3) := by decide +kernel
theorem dX10_filmVisitorsOn_22 : decode cX10_filmVisitorsOn 22 = .ok (.iload_n 2, 1) := by decide +kernel
theorem dX10_filmVisitorsOn_23 : decode cX10_filmVisitorsOn 23 = .ok (.if_icmp .ne 13, 3) := by decide +kernel
theorem dX10_filmVisitorsOn_26 : decode cX10_filmVisitorsOn 26 = .ok (.iload_n 3, 1) := by decide +kernel
theorem dX10_filmVisitorsOn_27 : decode cX10_filmVisitorsOn 27 = .ok (.aload_n 0, 1) := by decide +kernel
theorem dX10_filmVisitorsOn_28 : decode cX10_filmVisitorsOn 28 = .ok (.iload_n 1, 1) := by decide +kernel
theorem dX10_filmVisitorsOn_29 : decode cX10_filmVisitorsOn 29 = .ok (.iload 4, 2) := by decide +kernel
theorem dX10_filmVisitorsOn_31 : decode cX10_filmVisitorsOn 31 = .ok (.invokevirtual 85, 3) := by decide +kernel
theorem dX10_filmVisitorsOn_34 : decode cX10_filmVisitorsOn 34 = .ok (.iadd, 1) := by decide +kernel
theorem dX10_filmVisitorsOn_35 : decode cX10_filmVisitorsOn 35 = .ok (.istore_n 3, 1) := by decide +kernel
theorem dX10_filmVisitorsOn_36 : decode cX10_filmVisitorsOn 36 = .ok (.iinc 4 1, 3) := by decide +kernel
theorem dX10_filmVisitorsOn_39 : decode cX10_filmVisitorsOn 39 = .ok (.goto (-34), 3) := by decide +kernel
theorem dX10_filmVisitorsOn_42 : decode cX10_filmVisitorsOn 42 = .ok (.iload_n 3, 1) := by decide +kernel
theorem dX10_filmVisitorsOn_43 : decode cX10_filmVisitorsOn 43 = .ok (.ireturn, 1) := by decide +kernel
theorem dX10_filmTakings_0 : decode cX10_filmTakings 0 = .ok (.iconst 0, 1) := by decide +kernel
theorem dX10_filmTakings_1 : decode cX10_filmTakings 1 = .ok (.istore_n 2, 1) := by decide +kernel
theorem dX10_filmTakings_2 : decode cX10_filmTakings 2 = .ok (.iconst 0, 1) := by decide +kernel
theorem dX10_filmTakings_3 : decode cX10_filmTakings 3 = .ok (.istore_n 3, 1) := by decide +kernel
theorem dX10_filmTakings_4 : decode cX10_filmTakings 4 = .ok (.iload_n 3, 1) := by decide +kernel
theorem dX10_filmTakings_5 : decode cX10_filmTakings 5 = .ok (.aload_n 0, 1) := by decide +kernel
theorem dX10_filmTakings_6 : decode cX10_filmTakings 6 = .ok (.getfield 18, 3) := by decide +kernel
theorem dX10_filmTakings_9 : decode cX10_filmTakings 9 = .ok (.getfield 88, 3) := by decide +kernel
theorem dX10_filmTakings_12 : decode cX10_filmTakings 12 = .ok (.if_icmp .ge 18, 3) := by decide +kernel
theorem dX10_filmTakings_15 : decode cX10_filmTakings 15 = .ok (.iload_n 2, 1) := by decide +kernel
theorem dX10_filmTakings_16 : decode cX10_filmTakings 16 = .ok (.aload_n 0, 1) := by decide +kernel
theorem dX10_filmTakings_17 : decode cX10_filmTakings 17 = .ok (.iload_n 3, 1) := by decide +kernel
theorem dX10_filmTakings_18 : decode cX10_filmTakings 18 = .ok (.iload_n 1, 1) := by decide +kernel
theorem dX10_filmTakings_19 : decode cX10_filmTakings 19 = .ok (.invokevirtual 91, 3) := by decide +kernel
theorem dX10_filmTakings_22 : decode cX10_filmTakings 22 = .ok (.iadd, 1) := by decide +kernel
theorem dX10_filmTakings_23 : decode cX10_filmTakings 23 = .ok (.istore_n 2, 1) := by decide +kernel
theorem dX10_filmTakings_24 : decode cX10_filmTakings 24 = .ok (.iinc 3 1, 3) := by decide +kernel
theorem dX10_filmTakings_27 : decode cX10_filmTakings 27 = .ok (.goto (-23), 3) := by decide +kernel
theorem dX10_filmTakings_30 : decode cX10_filmTakings 30 = .ok (.iload_n 2, 1) := by decide +kernel
theorem dX10_filmTakings_31 : decode cX10_filmTakings 31 = .ok (.ireturn, 1) := by decide +kernel
theorem dX10_shareOf_0 : decode cX10_shareOf 0 = .ok (.aload_n 0, 1) := by decide +kernel
theorem dX10_shareOf_1 : decode cX10_shareOf 1 = .ok (.getfield 22, 3) := by decide +kernel
theorem dX10_shareOf_4 : decode cX10_shareOf 4 = .ok (.iload_n 1, 1) := by decide +kernel
theorem dX10_shareOf_5 : decode cX10_shareOf 5 = .ok (.iload_n 2, 1) := by decide +kernel
theorem dX10_shareOf_6 : decode cX10_shareOf 6 = .ok (.invokevirtual 94, 3) := by decide +kernel
theorem dX10_shareOf_9 : decode cX10_shareOf 9 = .ok (.aload_n 0, 1) := by decide +kernel
theorem dX10_shareOf_10 : decode cX10_shareOf 10 = .ok (.getfield 18, 3) := by decide +kernel
theorem dX10_shareOf_13 : decode cX10_shareOf 13 = .ok (.getfield 97, 3) := by decide +kernel
theorem dX10_shareOf_16 : decode cX10_shareOf 16 = .ok (.iload_n 2, 1) := by decide +kernel
theorem dX10_shareOf_17 : decode cX10_shareOf 17 = .ok (.iaload, 1) := by decide +kernel
theorem dX10_shareOf_18 : decode cX10_shareOf 18 = .ok (.iconst 1, 1) := by decide +kernel
theorem dX10_shareOf_19 : decode cX10_shareOf 19 = .ok (.isub, 1) := by decide +kernel
theorem dX10_shareOf_20 : decode cX10_shareOf 20 = .ok (.invokestatic 56, 3) := by decide +kernel
theorem dX10_shareOf_23 : decode cX10_shareOf 23 = .ok (.istore 4, 2) := by decide +kernel
theorem dX10_shareOf_25 : decode cX10_shareOf 25 = .ok (.aload_n 0, 1) := by decide +kernel
theorem dX10_shareOf_26 : decode cX10_shareOf 26 = .ok (.getfield 18, 3) := by decide +kernel
theorem dX10_shareOf_29 : decode cX10_shareOf 29 = .ok (.getfield 100, 3) := by decide +kernel
theorem dX10_shareOf_32 : decode cX10_shareOf 32 = .ok (.iload_n 2, 1) := by decide +kernel
theorem dX10_shareOf_33 : decode cX10_shareOf 33 = .ok (.iconst 4, 1) := by decide +kernel
theorem dX10_shareOf_34 : decode cX10_shareOf 34 = .ok (.imul, 1) := by decide +kernel
theorem dX10_shareOf_35 : decode cX10_shareOf 35 = .ok (.iconst 0, 1) := by decide +kernel
theorem dX10_shareOf_36 : decode cX10_shareOf 36 = .ok (.iload 4, 2) := by decide +kernel
theorem dX10_shareOf_38 : decode cX10_shareOf 38 = .ok (.invokestatic 61, 3) := by decide +kernel
theorem dX10_shareOf_41 : decode cX10_shareOf 41 = .ok (.iadd, 1) := by decide +kernel
theorem dX10_shareOf_42 : decode cX10_shareOf 42 = .ok (.iaload, 1) := by decide +kernel
theorem dX10_shareOf_43 : decode cX10_shareOf 43 = .ok (.istore 5, 2) := by decide +kernel
theorem dX10_shareOf_45 : decode cX10_shareOf 45 = .ok (.iload_n 3, 1) := by decide +kernel
theorem dX10_shareOf_46 : decode cX10_shareOf 46 = .ok (.iload 5, 2) := by decide +kernel
theorem dX10_shareOf_48 : decode cX10_shareOf 48 = .ok (.imul, 1) := by decide +kernel
theorem dX10_shareOf_49 : decode cX10_shareOf 49 = .ok (.bipush 100, 2) := by decide +kernel
theorem dX10_shareOf_51 : decode cX10_shareOf 51 = .ok (.idiv, 1) := by decide +kernel
theorem dX10_shareOf_52 : decode cX10_shareOf 52 = .ok (.aload_n 0, 1) := by decide +kernel
theorem dX10_shareOf_53 : decode cX10_shareOf 53 = .ok (.getfield 18, 3) := by decide +kernel
theorem dX10_shareOf_56 : decode cX10_shareOf 56 = .ok (.getfield 103, 3) := by decide +kernel
theorem dX10_shareOf_59 : decode cX10_shareOf 59 = .ok (.iload_n 2, 1) := by decide +kernel
theorem dX10_shareOf_60 : decode cX10_shareOf 60 = .ok (.iaload, 1) := by decide +kernel
theorem dX10_shareOf_61 : decode cX10_shareOf 61 = .ok (.iload_n 3, 1) := by decide +kernel
theorem dX10_shareOf_62 : decode cX10_shareOf 62 = .ok (.invokestatic 56, 3) := by decide +kernel
theorem dX10_shareOf_65 : decode cX10_shareOf 65 = .ok (.invokestatic 61, 3) := by decide +kernel
theorem dX10_shareOf_68 : decode cX10_shareOf 68 = .ok (.ireturn, 1) := by decide +kernel
theorem dX10_shareIn_0 : decode cX10_shareIn 0 = .ok (.aload_n 0, 1) := by decide +kernel
theorem dX10_shareIn_1 : decode cX10_shareIn 1 = .ok (.iload_n 1, 1) := by decide +kernel
theorem dX10_shareIn_2 : decode cX10_shareIn 2 = .ok (.iload_n 2, 1) := by decide +kernel
theorem dX10_shareIn_3 : decode cX10_shareIn 3 = .ok (.aload_n 0, 1) := by decide +kernel
theorem dX10_shareIn_4 : decode cX10_shareIn 4 = .ok (.iload_n 1, 1) := by decide +kernel
theorem dX10_shareIn_5 : decode cX10_shareIn 5 = .ok (.iload_n 2, 1) := by decide +kernel
theorem dX10_shareIn_6 : decode cX10_shareIn 6 = .ok (.invokevirtual 91, 3) := by decide +kernel
theorem dX10_shareIn_9 : decode cX10_shareIn 9 = .ok (.invokevirtual 106, 3) := by decide +kernel
theorem dX10_shareIn_12 : decode cX10_shareIn 12 = .ok (.ireturn, 1) := by decide +kernel
theorem dX10_houseShares_0 : decode cX10_houseShares 0 = .ok (.iconst 0, 1) := by decide +kernel
theorem dX10_houseShares_1 : decode cX10_houseShares 1 = .ok (.istore_n 2, 1) := by decide +kernel
theorem dX10_houseShares_2 : decode cX10_houseShares 2 = .ok (.iconst 0, 1) := by decide +kernel
theorem dX10_houseShares_3 : decode cX10_houseShares 3 = .ok (.istore_n 3, 1) := by decide +kernel
theorem dX10_houseShares_4 : decode cX10_houseShares 4 = .ok (.iload_n 3, 1) := by decide +kernel
theorem dX10_houseShares_5 : decode cX10_houseShares 5 = .ok (.aload_n 0, 1) := by decide +kernel
theorem dX10_houseShares_6 : decode cX10_houseShares 6 = .ok (.getfield 18, 3) := by decide +kernel
theorem dX10_houseShares_9 : decode cX10_houseShares 9 = .ok (.getfield 38, 3) := by decide +kernel
theorem dX10_houseShares_12 : decode cX10_houseShares 12 = .ok (.if_icmp .ge 18, 3) := by decide +kernel
theorem dX10_houseShares_15 : decode cX10_houseShares 15 = .ok (.iload_n 2, 1) := by decide +kernel
theorem dX10_houseShares_16 : decode cX10_houseShares 16 = .ok (.aload_n 0, 1) := by decide +kernel
theorem dX10_houseShares_17 : decode cX10_houseShares 17 = .ok (.iload_n 1, 1) := by decide +kernel
theorem dX10_houseShares_18 : decode cX10_houseShares 18 = .ok (.iload_n 3, 1) := by decide +kernel
theorem dX10_houseShares_19 : decode cX10_houseShares 19 = .ok (.invokevirtual 109, 3) := by decide +kernel
theorem dX10_houseShares_22 : decode cX10_houseShares 22 = .ok (.iadd, 1) := by decide +kernel
theorem dX10_houseShares_23 : decode cX10_houseShares 23 = .ok (.istore_n 2, 1) := by decide +kernel
theorem dX10_houseShares_24 : decode cX10_houseShares 24 = .ok (.iinc 3 1, 3) := by decide +kernel
theorem dX10_houseShares_27 : decode cX10_houseShares 27 = .ok (.goto (-23), 3) := by decide +kernel
theorem dX10_houseShares_30 : decode cX10_houseShares 30 = .ok (.iload_n 2, 1) := by decide +kernel
theorem dX10_houseShares_31 : decode cX10_houseShares 31 = .ok (.ireturn, 1) := by decide +kernel
theorem dX10_fillsWell_0 : decode cX10_fillsWell 0 = .ok (.aload_n 0, 1) := by decide +kernel
theorem dX10_fillsWell_1 : decode cX10_fillsWell 1 = .ok (.getfield 22, 3) := by decide +kernel
theorem dX10_fillsWell_4 : decode cX10_fillsWell 4 = .ok (.iload_n 1, 1) := by decide +kernel
theorem dX10_fillsWell_5 : decode cX10_fillsWell 5 = .ok (.bipush 6, 2) := by decide +kernel
theorem dX10_fillsWell_7 : decode cX10_fillsWell 7 = .ok (.invokevirtual 32, 3) := by decide +kernel
theorem dX10_fillsWell_10 : decode cX10_fillsWell 10 = .ok (.iconst (-1), 1) := by decide +kernel
theorem dX10_fillsWell_11 : decode cX10_fillsWell 11 = .ok (.if_icmp .ne 5, 3) := by decide +kernel
theorem dX10_fillsWell_14 : decode cX10_fillsWell 14 = .ok (.iconst 0, 1) := by decide +kernel
theorem dX10_fillsWell_15 : decode cX10_fillsWell 15 = .ok (.ireturn, 1) := by decide +kernel
theorem dX10_fillsWell_16 : decode cX10_fillsWell 16 = .ok (.aload_n 0, 1) := by decide +kernel
theorem dX10_fillsWell_17 : decode cX10_fillsWell 17 = .ok (.getfield 22, 3) := by decide +kernel
theorem dX10_fillsWell_20 : decode cX10_fillsWell 20 = .ok (.getfield 112, 3) := by decide +kernel
theorem dX10_fillsWell_23 : decode cX10_fillsWell 23 = .ok (.iload_n 1, 1) := by decide +kernel
theorem dX10_fillsWell_24 : decode cX10_fillsWell 24 = .ok (.iaload, 1) := by decide +kernel
theorem dX10_fillsWell_25 : decode cX10_fillsWell 25 = .ok (.istore_n 2, 1) := by decide +kernel
theorem dX10_fillsWell_26 : decode cX10_fillsWell 26 = .ok (.aload_n 0, 1) := by decide +kernel
theorem dX10_fillsWell_27 : decode cX10_fillsWell 27 = .ok (.getfield 18, 3) := by decide +kernel
theorem dX10_fillsWell_30 : decode cX10_fillsWell 30 = .ok (.iload_n 1, 1) := by decide +kernel
theorem dX10_fillsWell_31 : decode cX10_fillsWell 31 = .ok (.invokevirtual 67, 3) := by decide +kernel
theorem dX10_fillsWell_34 : decode cX10_fillsWell 34 = .ok (.istore_n 3, 1) := by decide +kernel
theorem dX10_fillsWell_35 : decode cX10_fillsWell 35 = .ok (.aload_n 0, 1) := by decide +kernel
theorem dX10_fillsWell_36 : decode cX10_fillsWell 36 = .ok (.iload_n 1, 1) := by decide +kernel
theorem dX10_fillsWell_37 : decode cX10_fillsWell 37 = .ok (.iload_n 2, 1) := by decide +kernel
theorem dX10_fillsWell_38 : decode cX10_fillsWell 38 = .ok (.invokevirtual 70, 3) := by decide +kernel
theorem dX10_fillsWell_41 : decode cX10_fillsWell 41 = .ok (.iload_n 3, 1) := by decide +kernel
theorem dX10_fillsWell_42 : decode cX10_fillsWell 42 = .ok (.imul, 1) := by decide +kernel
theorem dX10_fillsWell_43 : decode cX10_fillsWell 43 = .ok (.istore 4, 2) := by decide +kernel
theorem dX10_fillsWell_45 : decode cX10_fillsWell 45 = .ok (.aload_n 0, 1) := by decide +kernel
theorem dX10_fillsWell_46 : decode cX10_fillsWell 46 = .ok (.getfield 18, 3) := by decide +kernel
theorem dX10_fillsWell_49 : decode cX10_fillsWell 49 = .ok (.iload_n 1, 1) := by decide +kernel
theorem dX10_fillsWell_50 : decode cX10_fillsWell 50 = .ok (.invokevirtual 52, 3) := by decide +kernel
theorem dX10_fillsWell_53 : decode cX10_fillsWell 53 = .ok (.iload_n 3, 1) := by decide +kernel
theorem dX10_fillsWell_54 : decode cX10_fillsWell 54 = .ok (.imul, 1) := by decide +kernel
theorem dX10_fillsWell_55 : decode cX10_fillsWell 55 = .ok (.bipush 7, 2) := by decide +kernel
theorem dX10_fillsWell_57 : decode cX10_fillsWell 57 = .ok (.iload_n 2, 1) := by decide +kernel
theorem dX10_fillsWell_58 : decode cX10_fillsWell 58 = .ok (.isub, 1) := by decide +kernel
theorem dX10_fillsWell_59 : decode cX10_fillsWell 59 = .ok (.imul, 1) := by decide +kernel
theorem dX10_fillsWell_60 : decode cX10_fillsWell 60 = .ok (.istore 5, 2) := by decide +kernel
theorem dX10_fillsWell_62 : decode cX10_fillsWell 62 = .ok (.iload 4, 2) := by decide +kernel
theorem dX10_fillsWell_64 : decode cX10_fillsWell 64 = .ok (.bipush 100, 2) := by decide +kernel
theorem dX10_fillsWell_66 : decode cX10_fillsWell 66 = .ok (.imul, 1) := by decide +kernel
theorem dX10_fillsWell_67 : decode cX10_fillsWell 67 = .ok (.aload_n 0, 1) := by decide +kernel
theorem dX10_fillsWell_68 : decode cX10_fillsWell 68 = .ok (.getfield 22, 3) := by decide +kernel
theorem dX10_fillsWell_71 : decode cX10_fillsWell 71 = .ok (.getfield 115, 3) := by decide +kernel
theorem dX10_fillsWell_74 : decode cX10_fillsWell 74 = .ok (.aload_n 0, 1) := by decide +kernel
theorem dX10_fillsWell_75 : decode cX10_fillsWell 75 = .ok (.getfield 18, 3) := by decide +kernel
theorem dX10_fillsWell_78 : decode cX10_fillsWell 78 = .ok (.getfield 64, 3) := by decide +kernel
theorem dX10_fillsWell_81 : decode cX10_fillsWell 81 = .ok (.iload_n 1, 1) := by decide +kernel
theorem dX10_fillsWell_82 : decode cX10_fillsWell 82 = .ok (.iaload, 1) := by decide +kernel
theorem dX10_fillsWell_83 : decode cX10_fillsWell 83 = .ok (.iaload, 1) := by decide +kernel
theorem dX10_fillsWell_84 : decode cX10_fillsWell 84 = .ok (.iload 5, 2) := by decide +kernel
theorem dX10_fillsWell_86 : decode cX10_fillsWell 86 = .ok (.imul, 1) := by decide +kernel
theorem dX10_fillsWell_87 : decode cX10_fillsWell 87 = .ok (.if_icmp .lt 7, 3) := by decide +kernel
theorem dX10_fillsWell_90 : decode cX10_fillsWell 90 = .ok (.iconst 1, 1) := by decide +kernel
theorem dX10_fillsWell_91 : decode cX10_fillsWell 91 = .ok (.goto 4, 3) := by decide +kernel
theorem dX10_fillsWell_94 : decode cX10_fillsWell 94 = .ok (.iconst 0, 1) := by decide +kernel
theorem dX10_fillsWell_95 : decode cX10_fillsWell 95 = .ok (.ireturn, 1) := by decide +kernel
theorem dX10_screensShowing_0 : decode cX10_screensShowing 0 = .ok (.iconst 0, 1) := by decide +kernel
theorem dX10_screensShowing_1 : decode cX10_screensShowing 1 = .ok (.istore 4, 2) := by decide +kernel
theorem dX10_screensShowing_3 : decode cX10_screensShowing 3 = .ok (.iconst 0, 1) := by decide +kernel
theorem dX10_screensShowing_4 : decode cX10_screensShowing 4 = .ok (.istore 5, 2) := by decide +kernel
theorem dX10_screensShowing_6 : decode cX10_screensShowing 6 = .ok (.iload 5, 2) := by decide +kernel
theorem dX10_screensShowing_8 : decode cX10_screensShowing 8 = .ok (.aload_n 0, 1) := by decide +kernel
theorem dX10_screensShowing_9 : decode cX10_screensShowing 9 = .ok (.getfield 18, 3) := by decide +kernel
theorem dX10_screensShowing_12 : decode cX10_screensShowing 12 = .ok (.getfield 26, 3) := by decide +kernel
theorem dX10_screensShowing_15 : decode cX10_screensShowing 15 = .ok (.if_icmp .ge 40, 3) := by decide +kernel
theorem dX10_screensShowing_18 : decode cX10_screensShowing 18 = .ok (.aload_n 0, 1) := by decide +kernel
theorem dX10_screensShowing_19 : decode cX10_screensShowing 19 = .ok (.getfield 18, 3) := by decide +kernel
theorem dX10_screensShowing_22 : decode cX10_screensShowing 22 = .ok (.getfield 64, 3) := by decide +kernel
theorem dX10_screensShowing_25 : decode cX10_screensShowing 25 = .ok (.iload 5, 2) := by decide +kernel
theorem dX10_screensShowing_27 : decode cX10_screensShowing 27 = .ok (.iaload, 1) := by decide +kernel
theorem dX10_screensShowing_28 : decode cX10_screensShowing 28 = .ok (.iload_n 1, 1) := by decide +kernel
theorem dX10_screensShowing_29 : decode cX10_screensShowing 29 = .ok (.if_icmp .ne 20, 3) := by decide +kernel
theorem dX10_screensShowing_32 : decode cX10_screensShowing 32 = .ok (.aload_n 0, 1) := by decide +kernel
theorem dX10_screensShowing_33 : decode cX10_screensShowing 33 = .ok (.getfield 22, 3) := by decide +kernel
theorem dX10_screensShowing_36 : decode cX10_screensShowing 36 = .ok (.iload 5, 2) := by decide +kernel
theorem dX10_screensShowing_38 : decode cX10_screensShowing 38 = .ok (.iload_n 3, 1) := by decide +kernel
theorem dX10_screensShowing_39 : decode cX10_screensShowing 39 = .ok (.invokevirtual 32, 3) := by decide +kernel
theorem dX10_screensShowing_42 : decode cX10_screensShowing 42 = .ok (.iload_n 2, 1) := by decide +kernel
theorem dX10_screensShowing_43 : decode cX10_screensShowing 43 = .ok (.if_icmp .ne 6, 3) := by decide +kernel
theorem dX10_screensShowing_46 : decode cX10_screensShowing 46 = .ok (.iinc 4 1, 3) := by decide +kernel
theorem dX10_screensShowing_49 : decode cX10_screensShowing 49 = .ok (.iinc 5 1, 3) := by decide +kernel
theorem dX10_screensShowing_52 : decode cX10_screensShowing 52 = .ok (.goto (-46), 3) := by decide +kernel
theorem dX10_screensShowing_55 : decode cX10_screensShowing 55 = .ok (.iload 4, 2) := by decide +kernel
theorem dX10_screensShowing_57 : decode cX10_screensShowing 57 = .ok (.ireturn, 1) := by decide +kernel
theorem dX10_printsNeeded_0 : decode cX10_printsNeeded 0 = .ok (.iconst 0, 1) := by decide +kernel
theorem dX10_printsNeeded_1 : decode cX10_printsNeeded 1 = .ok (.istore_n 3, 1) := by decide +kernel
theorem dX10_printsNeeded_2 : decode cX10_printsNeeded 2 = .ok (.iload_n 2, 1) := by decide +kernel
theorem dX10_printsNeeded_3 : decode cX10_printsNeeded 3 = .ok (.iconst (-1), 1) := by decide +kernel
theorem dX10_printsNeeded_4 : decode cX10_printsNeeded 4 = .ok (.if_icmp .eq 32, 3) := by decide +kernel
theorem dX10_printsNeeded_7 : decode cX10_printsNeeded 7 = .ok (.iconst 0, 1) := by decide +kernel
theorem dX10_printsNeeded_8 : decode cX10_printsNeeded 8 = .ok (.istore 4, 2) := by decide +kernel
theorem dX10_printsNeeded_10 : decode cX10_printsNeeded 10 = .ok (.iload 4, 2) := by decide +kernel
theorem dX10_printsNeeded_12 : decode cX10_printsNeeded 12 = .ok (.bipush 7, 2) := by decide +kernel
theorem dX10_printsNeeded_14 : decode cX10_printsNeeded 14 = .ok (.if_icmp .ge 22, 3) := by decide +kernel
theorem dX10_printsNeeded_17 : decode cX10_printsNeeded 17 = .ok (.iload_n 3, 1) := by decide +kernel
theorem dX10_printsNeeded_18 : decode cX10_printsNeeded 18 = .ok (.aload_n 0, 1) := by decide +kernel
theorem dX10_printsNeeded_19 : decode cX10_printsNeeded 19 = .ok (.iload_n 2, 1) := by decide +kernel
theorem dX10_printsNeeded_20 : decode cX10_printsNeeded 20 = .ok (.iload_n 1, 1) := by decide +kernel
theorem dX10_printsNeeded_21 : decode cX10_printsNeeded 21 = .ok (.iload 4, 2) := by decide +kernel
theorem dX10_printsNeeded_23 : decode cX10_printsNeeded 23 = .ok (.invokevirtual 118, 3) := by decide +kernel
theorem dX10_printsNeeded_26 : decode cX10_printsNeeded 26 = .ok (.invokestatic 61, 3) := by decide +kernel
theorem dX10_printsNeeded_29 : decode cX10_printsNeeded 29 = .ok (.istore_n 3, 1) := by decide +kernel
theorem dX10_printsNeeded_30 : decode cX10_printsNeeded 30 = .ok (.iinc 4 1, 3) := by decide +kernel
theorem dX10_printsNeeded_33 : decode cX10_printsNeeded 33 = .ok (.goto (-23), 3) := by decide +kernel
theorem dX10_printsNeeded_36 : decode cX10_printsNeeded 36 = .ok (.iload_n 3, 1) := by decide +kernel
theorem dX10_printsNeeded_37 : decode cX10_printsNeeded 37 = .ok (.ireturn, 1) := by decide +kernel
theorem dX10_hasPrintsFor_0 : decode cX10_hasPrintsFor 0 = .ok (.aload_n 0, 1) := by decide +kernel
theorem dX10_hasPrintsFor_1 : decode cX10_hasPrintsFor 1 = .ok (.getfield 18, 3) := by decide +kernel
theorem dX10_hasPrintsFor_4 : decode cX10_hasPrintsFor 4 = .ok (.getfield 64, 3) := by decide +kernel
theorem dX10_hasPrintsFor_7 : decode cX10_hasPrintsFor 7 = .ok (.iload_n 1, 1) := by decide +kernel
theorem dX10_hasPrintsFor_8 : decode cX10_hasPrintsFor 8 = .ok (.iaload, 1) := by decide +kernel
theorem dX10_hasPrintsFor_9 : decode cX10_hasPrintsFor 9 = .ok (.istore 5, 2) := by decide +kernel
theorem dX10_hasPrintsFor_11 : decode cX10_hasPrintsFor 11 = .ok (.iconst 0, 1) := by decide +kernel
theorem dX10_hasPrintsFor_12 : decode cX10_hasPrintsFor 12 = .ok (.istore 6, 2) := by decide +kernel
theorem dX10_hasPrintsFor_14 : decode cX10_hasPrintsFor 14 = .ok (.iload 6, 2) := by decide +kernel
theorem dX10_hasPrintsFor_16 : decode cX10_hasPrintsFor 16 = .ok (.bipush 7, 2) := by decide +kernel
theorem dX10_hasPrintsFor_18 : decode cX10_hasPrintsFor 18 = .ok (.if_icmp .ge 76, 3) := by decide +kernel
theorem dX10_hasPrintsFor_21 : decode cX10_hasPrintsFor 21 = .ok (.iload 4, 2) := by decide +kernel
theorem dX10_hasPrintsFor_23 : decode cX10_hasPrintsFor 23 = .ok (.ifCond .eq 10, 3) := by decide +kernel
theorem dX10_hasPrintsFor_26 : decode cX10_hasPrintsFor 26 = .ok (.iload 6, 2) := by decide +kernel
theorem dX10_hasPrintsFor_28 : decode cX10_hasPrintsFor 28 = .ok (.iload 4, 2) := by decide +kernel
theorem dX10_hasPrintsFor_30 : decode cX10_hasPrintsFor 30 = .ok (.if_icmp .ge 7, 3) := by decide +kernel
theorem dX10_hasPrintsFor_33 : decode cX10_hasPrintsFor 33 = .ok (.iload_n 2, 1) := by decide +kernel
theorem dX10_hasPrintsFor_34 : decode cX10_hasPrintsFor 34 = .ok (.goto 4, 3) := by decide +kernel
theorem dX10_hasPrintsFor_37 : decode cX10_hasPrintsFor 37 = .ok (.iload_n 3, 1) := by decide +kernel
theorem dX10_hasPrintsFor_38 : decode cX10_hasPrintsFor 38 = .ok (.istore 7, 2) := by decide +kernel
theorem dX10_hasPrintsFor_40 : decode cX10_hasPrintsFor 40 = .ok (.aload_n 0, 1) := by decide +kernel
theorem dX10_hasPrintsFor_41 : decode cX10_hasPrintsFor 41 = .ok (.iload 5, 2) := by decide +kernel
theorem dX10_hasPrintsFor_43 : decode cX10_hasPrintsFor 43 = .ok (.iload 7, 2) := by decide +kernel
theorem dX10_hasPrintsFor_45 : decode cX10_hasPrintsFor 45 = .ok (.iload 6, 2) := by decide +kernel
theorem dX10_hasPrintsFor_47 : decode cX10_hasPrintsFor 47 = .ok (.invokevirtual 118, 3) := by decide +kernel
theorem dX10_hasPrintsFor_50 : decode cX10_hasPrintsFor 50 = .ok (.istore 8, 2) := by decide +kernel
theorem dX10_hasPrintsFor_52 : decode cX10_hasPrintsFor 52 = .ok (.aload_n 0, 1) := by decide +kernel
theorem dX10_hasPrintsFor_53 : decode cX10_hasPrintsFor 53 = .ok (.getfield 22, 3) := by decide +kernel
theorem dX10_hasPrintsFor_56 : decode cX10_hasPrintsFor 56 = .ok (.iload_n 1, 1) := by decide +kernel
theorem dX10_hasPrintsFor_57 : decode cX10_hasPrintsFor 57 = .ok (.iload 6, 2) := by decide +kernel
theorem dX10_hasPrintsFor_59 : decode cX10_hasPrintsFor 59 = .ok (.invokevirtual 32, 3) := by decide +kernel
theorem dX10_hasPrintsFor_62 : decode cX10_hasPrintsFor 62 = .ok (.iload 7, 2) := by decide +kernel
theorem dX10_hasPrintsFor_64 : decode cX10_hasPrintsFor 64 = .ok (.if_icmp .eq 6, 3) := by decide +kernel
theorem dX10_hasPrintsFor_67 : decode cX10_hasPrintsFor 67 = .ok (.iinc 8 1, 3) := by decide +kernel
theorem dX10_hasPrintsFor_70 : decode cX10_hasPrintsFor 70 = .ok (.iload 8, 2) := by decide +kernel
theorem dX10_hasPrintsFor_72 : decode cX10_hasPrintsFor 72 = .ok (.aload_n 0, 1) := by decide +kernel
theorem dX10_hasPrintsFor_73 : decode cX10_hasPrintsFor 73 = .ok (.getfield 22, 3) := by decide +kernel
theorem dX10_hasPrintsFor_76 : decode cX10_hasPrintsFor 76 = .ok (.iload 7, 2) := by decide +kernel
theorem dX10_hasPrintsFor_78 : decode cX10_hasPrintsFor 78 = .ok (.iload 5, 2) := by decide +kernel
theorem dX10_hasPrintsFor_80 : decode cX10_hasPrintsFor 80 = .ok (.invokevirtual 121, 3) := by decide +kernel
theorem dX10_hasPrintsFor_83 : decode cX10_hasPrintsFor 83 = .ok (.if_icmp .le 5, 3) := by decide +kernel
theorem dX10_hasPrintsFor_86 : decode cX10_hasPrintsFor 86 = .ok (.iconst 0, 1) := by decide +kernel
theorem dX10_hasPrintsFor_87 : decode cX10_hasPrintsFor 87 = .ok (.ireturn, 1) := by decide +kernel
theorem dX10_hasPrintsFor_88 : decode cX10_hasPrintsFor 88 = .ok (.iinc 6 1, 3) := by decide +kernel
theorem dX10_hasPrintsFor_91 : decode cX10_hasPrintsFor 91 = .ok (.goto (-77), 3) := by decide +kernel
theorem dX10_hasPrintsFor_94 : decode cX10_hasPrintsFor 94 = .ok (.iconst 1, 1) := by decide +kernel
theorem dX10_hasPrintsFor_95 : decode cX10_hasPrintsFor 95 = .ok (.ireturn, 1) := by decide +kernel
theorem dX10_isShownIn_0 : decode cX10_isShownIn 0 = .ok (.aload_n 0, 1) := by decide +kernel
theorem dX10_isShownIn_1 : decode cX10_isShownIn 1 = .ok (.iload_n 2, 1) := by decide +kernel
theorem dX10_isShownIn_2 : decode cX10_isShownIn 2 = .ok (.iload_n 1, 1) := by decide +kernel
theorem dX10_isShownIn_3 : decode cX10_isShownIn 3 = .ok (.invokevirtual 124, 3) := by decide +kernel
theorem dX10_isShownIn_6 : decode cX10_isShownIn 6 = .ok (.ifCond .le 7, 3) := by decide +kernel
theorem dX10_isShownIn_9 : decode cX10_isShownIn 9 = .ok (.iconst 1, 1) := by decide +kernel
theorem dX10_isShownIn_10 : decode cX10_isShownIn 10 = .ok (.goto 4, 3) := by decide +kernel
theorem dX10_isShownIn_13 : decode cX10_isShownIn 13 = .ok (.iconst 0, 1) := by decide +kernel
theorem dX10_isShownIn_14 : decode cX10_isShownIn 14 = .ok (.ireturn, 1) := by decide +kernel
theorem dX10_filmAtPlace_0 : decode cX10_filmAtPlace 0 = .ok (.iconst 0, 1) := by decide +kernel
theorem dX10_filmAtPlace_1 : decode cX10_filmAtPlace 1 = .ok (.istore_n 2, 1) := by decide +kernel
theorem dX10_filmAtPlace_2 : decode cX10_filmAtPlace 2 = .ok (.iload_n 2, 1) := by decide +kernel
theorem dX10_filmAtPlace_3 : decode cX10_filmAtPlace 3 = .ok (.aload_n 0, 1) := by decide +kernel
theorem dX10_filmAtPlace_4 : decode cX10_filmAtPlace 4 = .ok (.getfield 18, 3) := by decide +kernel
theorem dX10_filmAtPlace_7 : decode cX10_filmAtPlace 7 = .ok (.getfield 38, 3) := by decide +kernel
theorem dX10_filmAtPlace_10 : decode cX10_filmAtPlace 10 = .ok (.if_icmp .ge 30, 3) := by decide +kernel
theorem dX10_filmAtPlace_13 : decode cX10_filmAtPlace 13 = .ok (.aload_n 0, 1) := by decide +kernel
theorem dX10_filmAtPlace_14 : decode cX10_filmAtPlace 14 = .ok (.getfield 15, 3) := by decide +kernel
theorem dX10_filmAtPlace_17 : decode cX10_filmAtPlace 17 = .ok (.iload_n 2, 1) := by decide +kernel
theorem dX10_filmAtPlace_18 : decode cX10_filmAtPlace 18 = .ok (.aload_n 0, 1) := by decide +kernel
theorem dX10_filmAtPlace_19 : decode cX10_filmAtPlace 19 = .ok (.getfield 22, 3) := by decide +kernel
theorem dX10_filmAtPlace_22 : decode cX10_filmAtPlace 22 = .ok (.getfield 127, 3) := by decide +kernel
theorem dX10_filmAtPlace_25 : decode cX10_filmAtPlace 25 = .ok (.iload_n 2, 1) := by decide +kernel
theorem dX10_filmAtPlace_26 : decode cX10_filmAtPlace 26 = .ok (.iaload, 1) := by decide +kernel
theorem dX10_filmAtPlace_27 : decode cX10_filmAtPlace 27 = .ok (.aload_n 0, 1) := by decide +kernel
theorem dX10_filmAtPlace_28 : decode cX10_filmAtPlace 28 = .ok (.iload_n 2, 1) := by decide +kernel
theorem dX10_filmAtPlace_29 : decode cX10_filmAtPlace 29 = .ok (.invokevirtual 130, 3) := by decide +kernel
theorem dX10_filmAtPlace_32 : decode cX10_filmAtPlace 32 = .ok (.iadd, 1) := by decide +kernel
theorem dX10_filmAtPlace_33 : decode cX10_filmAtPlace 33 = .ok (.iastore, 1) := by decide +kernel
theorem dX10_filmAtPlace_34 : decode cX10_filmAtPlace 34 = .ok (.iinc 2 1, 3) := by decide +kernel
theorem dX10_filmAtPlace_37 : decode cX10_filmAtPlace 37 = .ok (.goto (-35), 3) := by decide +kernel
theorem dX10_filmAtPlace_40 : decode cX10_filmAtPlace 40 = .ok (.iconst 0, 1) := by decide +kernel
theorem dX10_filmAtPlace_41 : decode cX10_filmAtPlace 41 = .ok (.istore_n 2, 1) := by decide +kernel
theorem dX10_filmAtPlace_42 : decode cX10_filmAtPlace 42 = .ok (.iload_n 2, 1) := by decide +kernel
theorem dX10_filmAtPlace_43 : decode cX10_filmAtPlace 43 = .ok (.aload_n 0, 1) := by decide +kernel
theorem dX10_filmAtPlace_44 : decode cX10_filmAtPlace 44 = .ok (.getfield 18, 3) := by decide +kernel
theorem dX10_filmAtPlace_47 : decode cX10_filmAtPlace 47 = .ok (.getfield 38, 3) := by decide +kernel
theorem dX10_filmAtPlace_50 : decode cX10_filmAtPlace 50 = .ok (.if_icmp .ge 20, 3) := by decide +kernel
theorem dX10_filmAtPlace_53 : decode cX10_filmAtPlace 53 = .ok (.aload_n 0, 1) := by decide +kernel
theorem dX10_filmAtPlace_54 : decode cX10_filmAtPlace 54 = .ok (.iload_n 2, 1) := by decide +kernel
theorem dX10_filmAtPlace_55 : decode cX10_filmAtPlace 55 = .ok (.invokevirtual 132, 3) := by decide +kernel
theorem dX10_filmAtPlace_58 : decode cX10_filmAtPlace 58 = .ok (.iload_n 1, 1) := by decide +kernel
theorem dX10_filmAtPlace_59 : decode cX10_filmAtPlace 59 = .ok (.if_icmp .ne 5, 3) := by decide +kernel
theorem dX10_filmAtPlace_62 : decode cX10_filmAtPlace 62 = .ok (.iload_n 2, 1) := by decide +kernel
theorem dX10_filmAtPlace_63 : decode cX10_filmAtPlace 63 = .ok (.ireturn, 1) := by decide +kernel
theorem dX10_filmAtPlace_64 : decode cX10_filmAtPlace 64 = .ok (.iinc 2 1, 3) := by decide +kernel
theorem dX10_filmAtPlace_67 : decode cX10_filmAtPlace 67 = .ok (.goto (-25), 3) := by decide +kernel
theorem dX10_filmAtPlace_70 : decode cX10_filmAtPlace 70 = .ok (.iconst (-1), 1) := by decide +kernel
theorem dX10_filmAtPlace_71 : decode cX10_filmAtPlace 71 = .ok (.ireturn, 1) := by decide +kernel
theorem dX10_filmsAhead_0 : decode cX10_filmsAhead 0 = .ok (.iconst 0, 1) := by decide +kernel
theorem dX10_filmsAhead_1 : decode cX10_filmsAhead 1 = .ok (.istore_n 2, 1) := by decide +kernel
theorem dX10_filmsAhead_2 : decode cX10_filmsAhead 2 = .ok (.iconst 0, 1) := by decide +kernel
theorem dX10_filmsAhead_3 : decode cX10_filmsAhead 3 = .ok (.istore_n 3, 1) := by decide +kernel
theorem dX10_filmsAhead_4 : decode cX10_filmsAhead 4 = .ok (.iload_n 3, 1) := by decide +kernel
theorem dX10_filmsAhead_5 : decode cX10_filmsAhead 5 = .ok (.aload_n 0, 1) := by decide +kernel
theorem dX10_filmsAhead_6 : decode cX10_filmsAhead 6 = .ok (.getfield 18, 3) := by decide +kernel
theorem dX10_filmsAhead_9 : decode cX10_filmsAhead 9 = .ok (.getfield 38, 3) := by decide +kernel
theorem dX10_filmsAhead_12 : decode cX10_filmsAhead 12 = .ok (.if_icmp .ge 42, 3) := by decide +kernel
theorem dX10_filmsAhead_15 : decode cX10_filmsAhead 15 = .ok (.aload_n 0, 1) := by decide +kernel
theorem dX10_filmsAhead_16 : decode cX10_filmsAhead 16 = .ok (.getfield 15, 3) := by decide +kernel
theorem dX10_filmsAhead_19 : decode cX10_filmsAhead 19 = .ok (.iload_n 3, 1) := by decide +kernel
theorem dX10_filmsAhead_20 : decode cX10_filmsAhead 20 = .ok (.iaload, 1) := by decide +kernel
theorem dX10_filmsAhead_21 : decode cX10_filmsAhead 21 = .ok (.aload_n 0, 1) := by decide +kernel
theorem dX10_filmsAhead_22 : decode cX10_filmsAhead 22 = .ok (.getfield 15, 3) := by decide +kernel
theorem dX10_filmsAhead_25 : decode cX10_filmsAhead 25 = .ok (.iload_n 1, 1) := by decide +kernel
theorem dX10_filmsAhead_26 : decode cX10_filmsAhead 26 = .ok (.iaload, 1) := by decide +kernel
theorem dX10_filmsAhead_27 : decode cX10_filmsAhead 27 = .ok (.isub, 1) := by decide +kernel
theorem dX10_filmsAhead_28 : decode cX10_filmsAhead 28 = .ok (.istore 4, 2) := by decide +kernel
theorem dX10_filmsAhead_30 : decode cX10_filmsAhead 30 = .ok (.iload 4, 2) := by decide +kernel
theorem dX10_filmsAhead_32 : decode cX10_filmsAhead 32 = .ok (.ifCond .gt 13, 3) := by decide +kernel
theorem dX10_filmsAhead_35 : decode cX10_filmsAhead 35 = .ok (.iload 4, 2) := by decide +kernel
theorem dX10_filmsAhead_37 : decode cX10_filmsAhead 37 = .ok (.ifCond .ne 11, 3) := by decide +kernel
theorem dX10_filmsAhead_40 : decode cX10_filmsAhead 40 = .ok (.iload_n 3, 1) := by decide +kernel
theorem dX10_filmsAhead_41 : decode cX10_filmsAhead 41 = .ok (.iload_n 1, 1) := by decide +kernel
theorem dX10_filmsAhead_42 : decode cX10_filmsAhead 42 = .ok (.if_icmp .ge 6, 3) := by decide +kernel
theorem dX10_filmsAhead_45 : decode cX10_filmsAhead 45 = .ok (.iinc 2 1, 3) := by decide +kernel
theorem dX10_filmsAhead_48 : decode cX10_filmsAhead 48 = .ok (.iinc 3 1, 3) := by decide +kernel
theorem dX10_filmsAhead_51 : decode cX10_filmsAhead 51 = .ok (.goto (-47), 3) := by decide +kernel
theorem dX10_filmsAhead_54 : decode cX10_filmsAhead 54 = .ok (.iload_n 2, 1) := by decide +kernel
theorem dX10_filmsAhead_55 : decode cX10_filmsAhead 55 = .ok (.ireturn, 1) := by decide +kernel
theorem dX11_init_0 : decode cX11_init 0 = .ok (.aload_n 0, 1) := by decide +kernel
theorem dX11_init_1 : decode cX11_init 1 = .ok (.invokespecial 3, 3) := by decide +kernel
theorem dX11_init_4 : decode cX11_init 4 = .ok (.aload_n 0, 1) := by decide +kernel
theorem dX11_init_5 : decode cX11_init 5 = .ok (.sipush 700, 3) := by decide +kernel
theorem dX11_init_8 : decode cX11_init 8 = .ok (.newarray .byte, 2) := by decide +kernel
theorem dX11_init_10 : decode cX11_init 10 = .ok (.putfield 9, 3) := by decide +kernel
theorem dX11_init_13 : decode cX11_init 13 = .ok (.aload_n 0, 1) := by decide +kernel
theorem dX11_init_14 : decode cX11_init 14 = .ok (.iconst (-1), 1) := by decide +kernel
theorem dX11_init_15 : decode cX11_init 15 = .ok (.putfield 13, 3) := by decide +kernel
theorem dX11_init_18 : decode cX11_init 18 = .ok (.aload_n 0, 1) := by decide +kernel
theorem dX11_init_19 : decode cX11_init 19 = .ok (.new 17, 3) := by decide +kernel
theorem dX11_init_22 : decode cX11_init 22 = .ok (.dup, 1) := by decide +kernel
theorem dX11_init_23 : decode cX11_init 23 = .ok (.invokespecial 19, 3) := by decide +kernel
theorem dX11_init_26 : decode cX11_init 26 = .ok (.putfield 20, 3) := by decide +kernel
theorem dX11_init_29 : decode cX11_init 29 = .ok (.aload_n 0, 1) := by decide +kernel
theorem dX11_init_30 : decode cX11_init 30 = .ok (.new 24, 3) := by decide +kernel
theorem dX11_init_33 : decode cX11_init 33 = .ok (.dup, 1) := by decide +kernel
theorem dX11_init_34 : decode cX11_init 34 = .ok (.invokespecial 26, 3) := by decide +kernel
theorem dX11_init_37 : decode cX11_init 37 = .ok (.putfield 27, 3) := by decide +kernel
theorem dX11_init_40 : decode cX11_init 40 = .ok (.aload_n 0, 1) := by decide +kernel
theorem dX11_init_41 : decode cX11_init 41 = .ok (.new 31, 3) := by decide +kernel
theorem dX11_init_44 : decode cX11_init 44 = .ok (.dup, 1) := by decide +kernel
theorem dX11_init_45 : decode cX11_init 45 = .ok (.invokespecial 33, 3) := by decide +kernel
theorem dX11_init_48 : decode cX11_init 48 = .ok (.putfield 34, 3) := by decide +kernel
theorem dX11_init_51 : decode cX11_init 51 = .ok (.aload_n 0, 1) := by decide +kernel
theorem dX11_init_52 : decode cX11_init 52 = .ok (.new 38, 3) := by decide +kernel
theorem dX11_init_55 : decode cX11_init 55 = .ok (.dup, 1) := by decide +kernel
theorem dX11_init_56 : decode cX11_init 56 = .ok (.aload_n 0, 1) := by decide +kernel
theorem dX11_init_57 : decode cX11_init 57 = .ok (.getfield 27, 3) := by decide +kernel
theorem dX11_init_60 : decode cX11_init 60 = .ok (.aload_n 0, 1) := by decide +kernel
theorem dX11_init_61 : decode cX11_init 61 = .ok (.getfield 34, 3) := by decide +kernel
theorem dX11_init_64 : decode cX11_init 64 = .ok (.invokespecial 40, 3) := by decide +kernel
theorem dX11_init_67 : decode cX11_init 67 = .ok (.putfield 43, 3) := by decide +kernel
theorem dX11_init_70 : decode cX11_init 70 = .ok (.aload_n 0, 1) := by decide +kernel
theorem dX11_init_71 : decode cX11_init 71 = .ok (.new 47, 3) := by decide +kernel
theorem dX11_init_74 : decode cX11_init 74 = .ok (.dup, 1) := by decide +kernel
theorem dX11_init_75 : decode cX11_init 75 = .ok (.aload_n 0, 1) := by decide +kernel
theorem dX11_init_76 : decode cX11_init 76 = .ok (.getfield 27, 3) := by decide +kernel
theorem dX11_init_79 : decode cX11_init 79 = .ok (.aload_n 0, 1) := by decide +kernel
theorem dX11_init_80 : decode cX11_init 80 = .ok (.getfield 34, 3) := by decide +kernel
theorem dX11_init_83 : decode cX11_init 83 = .ok (.aload_n 0, 1) := by decide +kernel
theorem dX11_init_84 : decode cX11_init 84 = .ok (.getfield 43, 3) := by decide +kernel
theorem dX11_init_87 : decode cX11_init 87 = .ok (.invokespecial 49, 3) := by decide +kernel
theorem dX11_init_90 : decode cX11_init 90 = .ok (.putfield 52, 3) := by decide +kernel
theorem dX11_init_93 : decode cX11_init 93 = .ok (.aload_n 0, 1) := by decide +kernel
theorem dX11_init_94 : decode cX11_init 94 = .ok (.new 56, 3) := by decide +kernel
theorem dX11_init_97 : decode cX11_init 97 = .ok (.dup, 1) := by decide +kernel
theorem dX11_init_98 : decode cX11_init 98 = .ok (.aload_n 0, 1) := by decide +kernel
theorem dX11_init_99 : decode cX11_init 99 = .ok (.getfield 27, 3) := by decide +kernel
theorem dX11_init_102 : decode cX11_init 102 = .ok (.aload_n 0, 1) := by decide +kernel
theorem dX11_init_103 : decode cX11_init 103 = .ok (.getfield 34, 3) := by decide +kernel
theorem dX11_init_106 : decode cX11_init 106 = .ok (.aload_n 0, 1) := by decide +kernel
theorem dX11_init_107 : decode cX11_init 107 = .ok (.getfield 43, 3) := by decide +kernel
theorem dX11_init_110 : decode cX11_init 110 = .ok (.invokespecial 58, 3) := by decide +kernel
theorem dX11_init_113 : decode cX11_init 113 = .ok (.putfield 59, 3) := by decide +kernel
theorem dX11_init_116 : decode cX11_init 116 = .ok (.aload_n 0, 1) := by decide +kernel
theorem dX11_init_117 : decode cX11_init 117 = .ok (.new 63, 3) := by decide +kernel
theorem dX11_init_120 : decode cX11_init 120 = .ok (.dup, 1) := by decide +kernel
theorem dX11_init_121 : decode cX11_init 121 = .ok (.invokespecial 65, 3) := by decide +kernel
theorem dX11_init_124 : decode cX11_init 124 = .ok (.putfield 66, 3) := by decide +kernel
theorem dX11_init_127 : decode cX11_init 127 = .ok (.aload_n 0, 1) := by decide +kernel
theorem dX11_init_128 : decode cX11_init 128 = .ok (.new 70, 3) := by decide +kernel
theorem dX11_init_131 : decode cX11_init 131 = .ok (.dup, 1) := by decide +kernel
theorem dX11_init_132 : decode cX11_init 132 = .ok (.aload_n 0, 1) := by decide +kernel
theorem dX11_init_133 : decode cX11_init 133 = .ok (.getfield 9, 3) := by decide +kernel
theorem dX11_init_136 : decode cX11_init 136 = .ok (.invokespecial 72, 3) := by decide +kernel
theorem dX11_init_139 : decode cX11_init 139 = .ok (.putfield 75, 3) := by decide +kernel
theorem dX11_init_142 : decode cX11_init 142 = .ok (.aload_n 0, 1) := by decide +kernel
theorem dX11_init_143 : decode cX11_init 143 = .ok (.new 79, 3) := by decide +kernel
theorem dX11_init_146 : decode cX11_init 146 = .ok (.dup, 1) := by decide +kernel
theorem dX11_init_147 : decode cX11_init 147 = .ok (.aload_n 0, 1) := by decide +kernel
theorem dX11_init_148 : decode cX11_init 148 = .ok (.getfield 75, 3) := by decide +kernel
theorem dX11_init_151 : decode cX11_init 151 = .ok (.invokespecial 81, 3) := by decide +kernel
theorem dX11_init_154 : decode cX11_init 154 = .ok (.putfield 84, 3) := by decide +kernel
theorem dX11_init_157 : decode cX11_init 157 = .ok (.aload_n 0, 1) := by decide +kernel
theorem dX11_init_158 : decode cX11_init 158 = .ok (.new 88, 3) := by decide +kernel
theorem dX11_init_161 : decode cX11_init 161 = .ok (.dup, 1) := by decide +kernel
theorem dX11_init_162 : decode cX11_init 162 = .ok (.aload_n 0, 1) := by decide +kernel
theorem dX11_init_163 : decode cX11_init 163 = .ok (.getfield 75, 3) := by decide +kernel
theorem dX11_init_166 : decode cX11_init 166 = .ok (.aload_n 0, 1) := by decide +kernel
theorem dX11_init_167 : decode cX11_init 167 = .ok (.getfield 27, 3) := by decide +kernel
theorem dX11_init_170 : decode cX11_init 170 = .ok (.aload_n 0, 1) := by decide +kernel
theorem dX11_init_171 : decode cX11_init 171 = .ok (.getfield 34, 3) := by decide +kernel
theorem dX11_init_174 : decode cX11_init 174 = .ok (.aload_n 0, 1) := by decide +kernel
theorem dX11_init_175 : decode cX11_init 175 = .ok (.getfield 43, 3) := by decide +kernel
theorem dX11_init_178 : decode cX11_init 178 = .ok (.invokespecial 90, 3) := by decide +kernel
theorem dX11_init_181 : decode cX11_init 181 = .ok (.putfield 93, 3) := by decide +kernel
theorem dX11_init_184 : decode cX11_init 184 = .ok (.aload_n 0, 1) := by decide +kernel
theorem dX11_init_185 : decode cX11_init 185 = .ok (.getfield 34, 3) := by decide +kernel
theorem dX11_init_188 : decode cX11_init 188 = .ok (.invokevirtual 97, 3) := by decide +kernel
theorem dX11_init_191 : decode cX11_init 191 = .ok (.return_, 1) := by decide +kernel
theorem dX11_feed_0 : decode cX11_feed 0 = .ok (.aload_n 0, 1) := by decide +kernel
theorem dX11_feed_1 : decode cX11_feed 1 = .ok (.getfield 100, 3) := by decide +kernel
theorem dX11_feed_4 : decode cX11_feed 4 = .ok (.bipush 20, 2) := by decide +kernel
theorem dX11_feed_6 : decode cX11_feed 6 = .ok (.iadd, 1) := by decide +kernel
theorem dX11_feed_7 : decode cX11_feed 7 = .ok (.sipush 700, 3) := by decide +kernel
theorem dX11_feed_10 : decode cX11_feed 10 = .ok (.if_icmp .le 5, 3) := by decide +kernel
theorem dX11_feed_13 : decode cX11_feed 13 = .ok (.iconst (-1), 1) := by decide +kernel
theorem dX11_feed_14 : decode cX11_feed 14 = .ok (.ireturn, 1) := by decide +kernel
theorem dX11_feed_15 : decode cX11_feed 15 = .ok (.aload_n 0, 1) := by decide +kernel
theorem dX11_feed_16 : decode cX11_feed 16 = .ok (.iload_n 1, 1) := by decide +kernel
theorem dX11_feed_17 : decode cX11_feed 17 = .ok (.invokevirtual 103, 3) := by decide +kernel
theorem dX11_feed_20 : decode cX11_feed 20 = .ok (.aload_n 0, 1) := by decide +kernel
theorem dX11_feed_21 : decode cX11_feed 21 = .ok (.iload_n 2, 1) := by decide +kernel
theorem dX11_feed_22 : decode cX11_feed 22 = .ok (.invokevirtual 103, 3) := by decide +kernel
theorem dX11_feed_25 : decode cX11_feed 25 = .ok (.aload_n 0, 1) := by decide +kernel
theorem dX11_feed_26 : decode cX11_feed 26 = .ok (.iload_n 3, 1) := by decide +kernel
theorem dX11_feed_27 : decode cX11_feed 27 = .ok (.invokevirtual 103, 3) := by decide +kernel
theorem dX11_feed_30 : decode cX11_feed 30 = .ok (.aload_n 0, 1) := by decide +kernel
theorem dX11_feed_31 : decode cX11_feed 31 = .ok (.iload 4, 2) := by decide +kernel
theorem dX11_feed_33 : decode cX11_feed 33 = .ok (.invokevirtual 103, 3) := by decide +kernel
theorem dX11_feed_36 : decode cX11_feed 36 = .ok (.aload_n 0, 1) := by decide +kernel
theorem dX11_feed_37 : decode cX11_feed 37 = .ok (.iload 5, 2) := by decide +kernel
theorem dX11_feed_39 : decode cX11_feed 39 = .ok (.invokevirtual 103, 3) := by decide +kernel
theorem dX11_feed_42 : decode cX11_feed 42 = .ok (.aload_n 0, 1) := by decide +kernel
theorem dX11_feed_43 : decode cX11_feed 43 = .ok (.getfield 100, 3) := by decide +kernel
theorem dX11_feed_46 : decode cX11_feed 46 = .ok (.ireturn, 1) := by decide +kernel
theorem dX11_append_0 : decode cX11_append 0 = .ok (.bipush 24, 2) := by decide +kernel
theorem dX11_append_2 : decode cX11_append 2 = .ok (.istore_n 2, 1) := by decide +kernel
theorem dX11_append_3 : decode cX11_append 3 = .ok (.iload_n 2, 1) := by decide +kernel
theorem dX11_append_4 : decode cX11_append 4 = .ok (.ifCond .lt 42, 3) := by decide +kernel
theorem dX11_append_7 : decode cX11_append 7 = .ok (.aload_n 0, 1) := by decide +kernel
theorem dX11_append_8 : decode cX11_append 8 = .ok (.getfield 100, 3) := by decide +kernel
theorem dX11_append_11 : decode cX11_append 11 = .ok (.sipush 700, 3) := by decide +kernel
theorem dX11_append_14 : decode cX11_append 14 = .ok (.if_icmp .ge 26, 3) := by decide +kernel
theorem dX11_append_17 : decode cX11_append 17 = .ok (.aload_n 0, 1) := by decide +kernel
theorem dX11_append_18 : decode cX11_append 18 = .ok (.getfield 9, 3) := by decide +kernel
theorem dX11_append_21 : decode cX11_append 21 = .ok (.aload_n 0, 1) := by decide +kernel
theorem dX11_append_22 : decode cX11_append 22 = .ok (.getfield 100, 3) := by decide +kernel
theorem dX11_append_25 : decode cX11_append 25 = .ok (.iload_n 1, 1) := by decide +kernel
theorem dX11_append_26 : decode cX11_append 26 = .ok (.iload_n 2, 1) := by decide +kernel
theorem dX11_append_27 : decode cX11_append 27 = .ok (.ishr, 1) := by decide +kernel
theorem dX11_append_28 : decode cX11_append 28 = .ok (.i2b, 1) := by decide +kernel
theorem dX11_append_29 : decode cX11_append 29 = .ok (.bastore, 1) := by decide +kernel
theorem dX11_append_30 : decode cX11_append 30 = .ok (.aload_n 0, 1) := by decide +kernel
theorem dX11_append_31 : decode cX11_append 31 = .ok (.dup, 1) := by decide +kernel
theorem dX11_append_32 : decode cX11_append 32 = .ok (.getfield 100, 3) := by decide +kernel
theorem dX11_append_35 : decode cX11_append 35 = .ok (.iconst 1, 1) := by decide +kernel
theorem dX11_append_36 : decode cX11_append 36 = .ok (.iadd, 1) := by decide +kernel
theorem dX11_append_37 : decode cX11_append 37 = .ok (.putfield 100, 3) := by decide +kernel
theorem dX11_append_40 : decode cX11_append 40 = .ok (.iinc 2 (-8), 3) := by decide +kernel
theorem dX11_append_43 : decode cX11_append 43 = .ok (.goto (-40), 3) := by decide +kernel
theorem dX11_append_46 : decode cX11_append 46 = .ok (.return_, 1) := by decide +kernel
theorem dX11_load_0 : decode cX11_load 0 = .ok (.aload_n 0, 1) := by decide +kernel
theorem dX11_load_1 : decode cX11_load 1 = .ok (.iload_n 1, 1) := by decide +kernel
theorem dX11_load_2 : decode cX11_load 2 = .ok (.sipush 700, 3) := by decide +kernel
theorem dX11_load_5 : decode cX11_load 5 = .ok (.invokevirtual 107, 3) := by decide +kernel
theorem dX11_load_8 : decode cX11_load 8 = .ok (.aload_n 0, 1) := by decide +kernel
theorem dX11_load_9 : decode cX11_load 9 = .ok (.getfield 84, 3) := by decide +kernel
theorem dX11_load_12 : decode cX11_load 12 = .ok (.iload_n 1, 1) := by decide +kernel
theorem dX11_load_13 : decode cX11_load 13 = .ok (.invokevirtual 111, 3) := by decide +kernel
theorem dX11_load_16 : decode cX11_load 16 = .ok (.aload_n 0, 1) := by decide +kernel
theorem dX11_load_17 : decode cX11_load 17 = .ok (.invokevirtual 114, 3) := by decide +kernel
theorem dX11_load_20 : decode cX11_load 20 = .ok (.aload_n 0, 1) := by decide +kernel
theorem dX11_load_21 : decode cX11_load 21 = .ok (.getfield 75, 3) := by decide +kernel
theorem dX11_load_24 : decode cX11_load 24 = .ok (.invokevirtual 117, 3) := by decide +kernel
theorem dX11_load_27 : decode cX11_load 27 = .ok (.ifCond .eq 14, 3) := by decide +kernel
theorem dX11_load_30 : decode cX11_load 30 = .ok (.bipush (-10), 2) := by decide +kernel
theorem dX11_load_32 : decode cX11_load 32 = .ok (.aload_n 0, 1) := by decide +kernel
theorem dX11_load_33 : decode cX11_load 33 = .ok (.getfield 75, 3) := by decide +kernel
theorem dX11_load_36 : decode cX11_load 36 = .ok (.getfield 121, 3) := by decide +kernel
theorem dX11_load_39 : decode cX11_load 39 = .ok (.isub, 1) := by decide +kernel
theorem dX11_load_40 : decode cX11_load 40 = .ok (.ireturn, 1) := by decide +kernel
theorem dX11_load_41 : decode cX11_load 41 = .ok (.aload_n 0, 1) := by decide +kernel
theorem dX11_load_42 : decode cX11_load 42 = .ok (.getfield 27, 3) := by decide +kernel
theorem dX11_load_45 : decode cX11_load 45 = .ok (.aload_n 0, 1) := by decide +kernel
theorem dX11_load_46 : decode cX11_load 46 = .ok (.getfield 84, 3) := by decide +kernel
theorem dX11_load_49 : decode cX11_load 49 = .ok (.getfield 124, 3) := by decide +kernel
theorem dX11_load_52 : decode cX11_load 52 = .ok (.invokevirtual 125, 3) := by decide +kernel
theorem dX11_load_55 : decode cX11_load 55 = .ok (.aload_n 0, 1) := by decide +kernel
theorem dX11_load_56 : decode cX11_load 56 = .ok (.getfield 34, 3) := by decide +kernel
theorem dX11_load_59 : decode cX11_load 59 = .ok (.aload_n 0, 1) := by decide +kernel
theorem dX11_load_60 : decode cX11_load 60 = .ok (.getfield 84, 3) := by decide +kernel
theorem dX11_load_63 : decode cX11_load 63 = .ok (.getfield 129, 3) := by decide +kernel
theorem dX11_load_66 : decode cX11_load 66 = .ok (.invokevirtual 130, 3) := by decide +kernel
theorem dX11_load_69 : decode cX11_load 69 = .ok (.aload_n 0, 1) := by decide +kernel
theorem dX11_load_70 : decode cX11_load 70 = .ok (.getfield 66, 3) := by decide +kernel
theorem dX11_load_73 : decode cX11_load 73 = .ok (.invokevirtual 133, 3) := by decide +kernel
theorem dX11_load_76 : decode cX11_load 76 = .ok (.aload_n 0, 1) := by decide +kernel
theorem dX11_load_77 : decode cX11_load 77 = .ok (.getfield 43, 3) := by decide +kernel
theorem dX11_load_80 : decode cX11_load 80 = .ok (.invokevirtual 136, 3) := by decide +kernel
theorem dX11_load_83 : decode cX11_load 83 = .ok (.aload_n 0, 1) := by decide +kernel
theorem dX11_load_84 : decode cX11_load 84 = .ok (.getfield 27, 3) := by decide +kernel
theorem dX11_load_87 : decode cX11_load 87 = .ok (.getfield 139, 3) := by decide +kernel
theorem dX11_load_90 : decode cX11_load 90 = .ok (.ireturn, 1) := by decide +kernel
theorem dX11_checkLength_0 : decode cX11_checkLength 0 = .ok (.iload_n 1, 1) := by decide +kernel
theorem dX11_checkLength_1 : decode cX11_checkLength 1 = .ok (.ifCond .lt 16, 3) := by decide +kernel
theorem dX11_checkLength_4 : decode cX11_checkLength 4 = .ok (.iload_n 1, 1) := by decide +kernel
theorem dX11_checkLength_5 : decode cX11_checkLength 5 = .ok (.iload_n 2, 1) := by decide +kernel
theorem dX11_checkLength_6 : decode cX11_checkLength 6 = .ok (.if_icmp .gt 11, 3) := by decide +kernel
theorem dX11_checkLength_9 : decode cX11_checkLength 9 = .ok (.iload_n 1, 1) := by decide +kernel
theorem dX11_checkLength_10 : decode cX11_checkLength 10 = .ok (.aload_n 0, 1) := by decide +kernel
theorem dX11_checkLength_11 : decode cX11_checkLength 11 = .ok (.getfield 100, 3) := by decide +kernel
theorem dX11_checkLength_14 : decode cX11_checkLength 14 = .ok (.if_icmp .le 13, 3) := by decide +kernel
theorem dX11_checkLength_17 : decode cX11_checkLength 17 = .ok (.new 147, 3) := by decide +kernel
theorem dX11_checkLength_20 : decode cX11_checkLength 20 = .ok (.dup, 1) := by decide +kernel
theorem dX11_checkLength_21 : decode cX11_checkLength 21 = .ok (.ldc 149, 2) := by decide +kernel
theorem dX11_checkLength_23 : decode cX11_checkLength 23 = .ok (.invokespecial 151, 3) := by decide +kernel
theorem dX11_checkLength_26 : decode cX11_checkLength 26 = .ok (.athrow, 1) := by decide +kernel
theorem dX11_checkLength_27 : decode cX11_checkLength 27 = .ok (.return_, 1) := by decide +kernel
theorem dX11_finishReading_0 : decode cX11_finishReading 0 = .ok (.aload_n 0, 1) := by decide +kernel
theorem dX11_finishReading_1 : decode cX11_finishReading 1 = .ok (.iconst 0, 1) := by decide +kernel
theorem dX11_finishReading_2 : decode cX11_finishReading 2 = .ok (.putfield 100, 3) := by decide +kernel
theorem dX11_finishReading_5 : decode cX11_finishReading 5 = .ok (.aload_n 0, 1) := by decide +kernel
theorem dX11_finishReading_6 : decode cX11_finishReading 6 = .ok (.aload_n 0, 1) := by decide +kernel
theorem dX11_finishReading_7 : decode cX11_finishReading 7 = .ok (.getfield 75, 3) := by decide +kernel
theorem dX11_finishReading_10 : decode cX11_finishReading 10 = .ok (.invokevirtual 117, 3) := by decide +kernel
theorem dX11_finishReading_13 : decode cX11_finishReading 13 = .ok (.ifCond .eq 13, 3) := by decide +kernel
theorem dX11_finishReading_16 : decode cX11_finishReading 16 = .ok (.aload_n 0, 1) := by decide +kernel
theorem dX11_finishReading_17 : decode cX11_finishReading 17 = .ok (.getfield 75, 3) := by decide +kernel
theorem dX11_finishReading_20 : decode cX11_finishReading 20 = .ok (.getfield 154, 3) := by decide +kernel
theorem dX11_finishReading_23 : decode cX11_finishReading 23 = .ok (.goto 4, 3) := by decide +kernel
theorem dX11_finishReading_26 : decode cX11_finishReading 26 = .ok (.iconst (-1), 1) := by decide +kernel
theorem dX11_finishReading_27 : decode cX11_finishReading 27 = .ok (.putfield 13, 3) := by decide +kernel
theorem dX11_finishReading_30 : decode cX11_finishReading 30 = .ok (.return_, 1) := by decide +kernel
theorem dX11_size_0 : decode cX11_size 0 = .ok (.iload_n 1, 1) := by decide +kernel
theorem dX11_size_1 : decode cX11_size 1 = .ok (.tableswitch 125 0 7 #[47, 55, 63, 71, 79, 87, 95, 110], 47) := by decide +kernel
theorem dX11_size_48 : decode cX11_size 48 = .ok (.aload_n 0, 1) := by decide +kernel
theorem dX11_size_49 : decode cX11_size 49 = .ok (.getfield 27, 3) := by decide +kernel
theorem dX11_size_52 : decode cX11_size 52 = .ok (.getfield 155, 3) := by decide +kernel
theorem dX11_size_55 : decode cX11_size 55 = .ok (.ireturn, 1) := by decide +kernel
theorem dX11_size_56 : decode cX11_size 56 = .ok (.aload_n 0, 1) := by decide +kernel
theorem dX11_size_57 : decode cX11_size 57 = .ok (.getfield 27, 3) := by decide +kernel
theorem dX11_size_60 : decode cX11_size 60 = .ok (.getfield 139, 3) := by decide +kernel
theorem dX11_size_63 : decode cX11_size 63 = .ok (.ireturn, 1) := by decide +kernel
theorem dX11_size_64 : decode cX11_size 64 = .ok (.aload_n 0, 1) := by decide +kernel
theorem dX11_size_65 : decode cX11_size 65 = .ok (.getfield 27, 3) := by decide +kernel
theorem dX11_size_68 : decode cX11_size 68 = .ok (.getfield 158, 3) := by decide +kernel
theorem dX11_size_71 : decode cX11_size 71 = .ok (.ireturn, 1) := by decide +kernel
theorem dX11_size_72 : decode cX11_size 72 = .ok (.aload_n 0, 1) := by decide +kernel
theorem dX11_size_73 : decode cX11_size 73 = .ok (.getfield 34, 3) := by decide +kernel
theorem dX11_size_76 : decode cX11_size 76 = .ok (.getfield 161, 3) := by decide +kernel
theorem dX11_size_79 : decode cX11_size 79 = .ok (.ireturn, 1) := by decide +kernel
theorem dX11_size_80 : decode cX11_size 80 = .ok (.aload_n 0, 1) := by decide +kernel
theorem dX11_size_81 : decode cX11_size 81 = .ok (.getfield 34, 3) := by decide +kernel
theorem dX11_size_84 : decode cX11_size 84 = .ok (.getfield 164, 3) := by decide +kernel
theorem dX11_size_87 : decode cX11_size 87 = .ok (.ireturn, 1) := by decide +kernel
theorem dX11_size_88 : decode cX11_size 88 = .ok (.aload_n 0, 1) := by decide +kernel
theorem dX11_size_89 : decode cX11_size 89 = .ok (.getfield 34, 3) := by decide +kernel
theorem dX11_size_92 : decode cX11_size 92 = .ok (.getfield 167, 3) := by decide +kernel
theorem dX11_size_95 : decode cX11_size 95 = .ok (.ireturn, 1) := by decide +kernel
theorem dX11_size_96 : decode cX11_size 96 = .ok (.aload_n 0, 1) := by decide +kernel
theorem dX11_size_97 : decode cX11_size 97 = .ok (.getfield 34, 3) := by decide +kernel
theorem dX11_size_100 : decode cX11_size 100 = .ok (.aload_n 0, 1) := by decide +kernel
theorem dX11_size_101 : decode cX11_size 101 = .ok (.getfield 27, 3) := by decide +kernel
theorem dX11_size_104 : decode cX11_size 104 = .ok (.getfield 139, 3) := by decide +kernel
theorem dX11_size_107 : decode cX11_size 107 = .ok (.invokevirtual 170, 3) := by decide +kernel
theorem dX11_size_110 : decode cX11_size 110 = .ok (.ireturn, 1) := by decide +kernel
theorem dX11_size_111 : decode cX11_size 111 = .ok (.aload_n 0, 1) := by decide +kernel
theorem dX11_size_112 : decode cX11_size 112 = .ok (.getfield 34, 3) := by decide +kernel
theorem dX11_size_115 : decode cX11_size 115 = .ok (.aload_n 0, 1) := by decide +kernel
theorem dX11_size_116 : decode cX11_size 116 = .ok (.getfield 27, 3) := by decide +kernel
theorem dX11_size_119 : decode cX11_size 119 = .ok (.getfield 139, 3) := by decide +kernel
theorem dX11_size_122 : decode cX11_size 122 = .ok (.invokevirtual 173, 3) := by decide +kernel
theorem dX11_size_125 : decode cX11_size 125 = .ok (.ireturn, 1) := by decide +kernel
theorem dX11_size_126 : decode cX11_size 126 = .ok (.new 176, 3) := by decide +kernel
theorem dX11_size_129 : decode cX11_size 129 = .ok (.dup, 1) := by decide +kernel
theorem dX11_size_130 : decode cX11_size 130 = .ok (.ldc 178, 2) := by decide +kernel
theorem dX11_size_132 : decode cX11_size 132 = .ok (.invokespecial 180, 3) := by decide +kernel
theorem dX11_size_135 : decode cX11_size 135 = .ok (.athrow, 1) := by decide +kernel
theorem dX11_house_0 : decode cX11_house 0 = .ok (.aload_n 0, 1) := by decide +kernel
theorem dX11_house_1 : decode cX11_house 1 = .ok (.iload_n 1, 1) := by decide +kernel
theorem dX11_house_2 : decode cX11_house 2 = .ok (.invokevirtual 181, 3) := by decide +kernel
theorem dX11_house_5 : decode cX11_house 5 = .ok (.iload_n 2, 1) := by decide +kernel
theorem dX11_house_6 : decode cX11_house 6 = .ok (.tableswitch 113 0 5 #[38, 48, 58, 68, 77, 86], 38) := by decide +kernel
theorem dX11_house_44 : decode cX11_house 44 = .ok (.aload_n 0, 1) := by decide +kernel
theorem dX11_house_45 : decode cX11_house 45 = .ok (.getfield 27, 3) := by decide +kernel
theorem dX11_house_48 : decode cX11_house 48 = .ok (.getfield 184, 3) := by decide +kernel
theorem dX11_house_51 : decode cX11_house 51 = .ok (.iload_n 1, 1) := by decide +kernel
theorem dX11_house_52 : decode cX11_house 52 = .ok (.iaload, 1) := by decide +kernel
theorem dX11_house_53 : decode cX11_house 53 = .ok (.ireturn, 1) := by decide +kernel
theorem dX11_house_54 : decode cX11_house 54 = .ok (.aload_n 0, 1) := by decide +kernel
theorem dX11_house_55 : decode cX11_house 55 = .ok (.getfield 34, 3) := by decide +kernel
theorem dX11_house_58 : decode cX11_house 58 = .ok (.getfield 188, 3) := by decide +kernel
theorem dX11_house_61 : decode cX11_house 61 = .ok (.iload_n 1, 1) := by decide +kernel
theorem dX11_house_62 : decode cX11_house 62 = .ok (.iaload, 1) := by decide +kernel
theorem dX11_house_63 : decode cX11_house 63 = .ok (.ireturn, 1) := by decide +kernel
theorem dX11_house_64 : decode cX11_house 64 = .ok (.aload_n 0, 1) := by decide +kernel
theorem dX11_house_65 : decode cX11_house 65 = .ok (.getfield 27, 3) := by decide +kernel
theorem dX11_house_68 : decode cX11_house 68 = .ok (.getfield 191, 3) := by decide +kernel
theorem dX11_house_71 : decode cX11_house 71 = .ok (.iload_n 1, 1) := by decide +kernel
theorem dX11_house_72 : decode cX11_house 72 = .ok (.iaload, 1) := by decide +kernel
theorem dX11_house_73 : decode cX11_house 73 = .ok (.ireturn, 1) := by decide +kernel
theorem dX11_house_74 : decode cX11_house 74 = .ok (.aload_n 0, 1) := by decide +kernel
theorem dX11_house_75 : decode cX11_house 75 = .ok (.getfield 43, 3) := by decide +kernel
theorem dX11_house_78 : decode cX11_house 78 = .ok (.iload_n 1, 1) := by decide +kernel
theorem dX11_house_79 : decode cX11_house 79 = .ok (.invokevirtual 194, 3) := by decide +kernel
theorem dX11_house_82 : decode cX11_house 82 = .ok (.ireturn, 1) := by decide +kernel
theorem dX11_house_83 : decode cX11_house 83 = .ok (.aload_n 0, 1) := by decide +kernel
theorem dX11_house_84 : decode cX11_house 84 = .ok (.getfield 43, 3) := by decide +kernel
theorem dX11_house_87 : decode cX11_house 87 = .ok (.iload_n 1, 1) := by decide +kernel
theorem dX11_house_88 : decode cX11_house 88 = .ok (.invokevirtual 197, 3) := by decide +kernel
theorem dX11_house_91 : decode cX11_house 91 = .ok (.ireturn, 1) := by decide +kernel
theorem dX11_house_92 : decode cX11_house 92 = .ok (.aload_n 0, 1) := by decide +kernel
theorem dX11_house_93 : decode cX11_house 93 = .ok (.getfield 43, 3) := by decide +kernel
theorem dX11_house_96 : decode cX11_house 96 = .ok (.iload_n 1, 1) := by decide +kernel
theorem dX11_house_97 : decode cX11_house 97 = .ok (.invokevirtual 194, 3) := by decide +kernel
theorem dX11_house_100 : decode cX11_house 100 = .ok (.aload_n 0, 1) := by decide +kernel
theorem dX11_house_101 : decode cX11_house 101 = .ok (.getfield 43, 3) := by decide +kernel
theorem dX11_house_104 : decode cX11_house 104 = .ok (.iload_n 1, 1) := by decide +kernel
theorem dX11_house_105 : decode cX11_house 105 = .ok (.invokevirtual 197, 3) := by decide +kernel
theorem dX11_house_108 : decode cX11_house 108 = .ok (.isub, 1) := by decide +kernel
theorem dX11_house_109 : decode cX11_house 109 = .ok (.aload_n 0, 1) := by decide +kernel
theorem dX11_house_110 : decode cX11_house 110 = .ok (.getfield 43, 3) := by decide +kernel
theorem dX11_house_113 : decode cX11_house 113 = .ok (.iload_n 1, 1) := by decide +kernel
theorem dX11_house_114 : decode cX11_house 114 = .ok (.invokevirtual 200, 3) := by decide +kernel
theorem dX11_house_117 : decode cX11_house 117 = .ok (.isub, 1) := by decide +kernel
theorem dX11_house_118 : decode cX11_house 118 = .ok (.ireturn, 1) := by decide +kernel
theorem dX11_house_119 : decode cX11_house 119 = .ok (.new 176, 3) := by decide +kernel
theorem dX11_house_122 : decode cX11_house 122 = .ok (.dup, 1) := by decide +kernel
theorem dX11_house_123 : decode cX11_house 123 = .ok (.ldc 178, 2) := by decide +kernel
theorem dX11_house_125 : decode cX11_house 125 = .ok (.invokespecial 180, 3) := by decide +kernel
theorem dX11_house_128 : decode cX11_house 128 = .ok (.athrow, 1) := by decide +kernel
theorem dX11_screen_0 : decode cX11_screen 0 = .ok (.aload_n 0, 1) := by decide +kernel
theorem dX11_screen_1 : decode cX11_screen 1 = .ok (.iload_n 1, 1) := by decide +kernel
theorem dX11_screen_2 : decode cX11_screen 2 = .ok (.invokevirtual 203, 3) := by decide +kernel
theorem dX11_screen_5 : decode cX11_screen 5 = .ok (.iload_n 2, 1) := by decide +kernel
theorem dX11_screen_6 : decode cX11_screen 6 = .ok (.tableswitch 139 0 8 #[50, 60, 70, 80, 90, 100, 110, 120, 130], 50) := by decide +kernel
theorem dX11_screen_56 : decode cX11_screen 56 = .ok (.aload_n 0, 1) := by decide +kernel
theorem dX11_screen_57 : decode cX11_screen 57 = .ok (.getfield 27, 3) := by decide +kernel
theorem dX11_screen_60 : decode cX11_screen 60 = .ok (.getfield 206, 3) := by decide +kernel
theorem dX11_screen_63 : decode cX11_screen 63 = .ok (.iload_n 1, 1) := by decide +kernel
theorem dX11_screen_64 : decode cX11_screen 64 = .ok (.iaload, 1) := by decide +kernel
theorem dX11_screen_65 : decode cX11_screen 65 = .ok (.ireturn, 1) := by decide +kernel
theorem dX11_screen_66 : decode cX11_screen 66 = .ok (.aload_n 0, 1) := by decide +kernel
theorem dX11_screen_67 : decode cX11_screen 67 = .ok (.getfield 27, 3) := by decide +kernel
theorem dX11_screen_70 : decode cX11_screen 70 = .ok (.getfield 209, 3) := by decide +kernel
theorem dX11_screen_73 : decode cX11_screen 73 = .ok (.iload_n 1, 1) := by decide +kernel
theorem dX11_screen_74 : decode cX11_screen 74 = .ok (.iaload, 1) := by decide +kernel
theorem dX11_screen_75 : decode cX11_screen 75 = .ok (.ireturn, 1) := by decide +kernel
theorem dX11_screen_76 : decode cX11_screen 76 = .ok (.aload_n 0, 1) := by decide +kernel
theorem dX11_screen_77 : decode cX11_screen 77 = .ok (.getfield 27, 3) := by decide +kernel
theorem dX11_screen_80 : decode cX11_screen 80 = .ok (.getfield 212, 3) := by decide +kernel
theorem dX11_screen_83 : decode cX11_screen 83 = .ok (.iload_n 1, 1) := by decide +kernel
theorem dX11_screen_84 : decode cX11_screen 84 = .ok (.iaload, 1) := by decide +kernel
theorem dX11_screen_85 : decode cX11_screen 85 = .ok (.ireturn, 1) := by decide +kernel
theorem dX11_screen_86 : decode cX11_screen 86 = .ok (.aload_n 0, 1) := by decide +kernel
theorem dX11_screen_87 : decode cX11_screen 87 = .ok (.getfield 34, 3) := by decide +kernel
theorem dX11_screen_90 : decode cX11_screen 90 = .ok (.getfield 215, 3) := by decide +kernel
theorem dX11_screen_93 : decode cX11_screen 93 = .ok (.iload_n 1, 1) := by decide +kernel
theorem dX11_screen_94 : decode cX11_screen 94 = .ok (.iaload, 1) := by decide +kernel
theorem dX11_screen_95 : decode cX11_screen 95 = .ok (.ireturn, 1) := by decide +kernel
theorem dX11_screen_96 : decode cX11_screen 96 = .ok (.aload_n 0, 1) := by decide +kernel
theorem dX11_screen_97 : decode cX11_screen 97 = .ok (.getfield 34, 3) := by decide +kernel
theorem dX11_screen_100 : decode cX11_screen 100 = .ok (.getfield 218, 3) := by decide +kernel
theorem dX11_screen_103 : decode cX11_screen 103 = .ok (.iload_n 1, 1) := by decide +kernel
theorem dX11_screen_104 : decode cX11_screen 104 = .ok (.iaload, 1) := by decide +kernel
theorem dX11_screen_105 : decode cX11_screen 105 = .ok (.ireturn, 1) := by decide +kernel
theorem dX11_screen_106 : decode cX11_screen 106 = .ok (.aload_n 0, 1) := by decide +kernel
theorem dX11_screen_107 : decode cX11_screen 107 = .ok (.getfield 34, 3) := by decide +kernel
theorem dX11_screen_110 : decode cX11_screen 110 = .ok (.getfield 221, 3) := by decide +kernel
theorem dX11_screen_113 : decode cX11_screen 113 = .ok (.iload_n 1, 1) := by decide +kernel
theorem dX11_screen_114 : decode cX11_screen 114 = .ok (.iaload, 1) := by decide +kernel
theorem dX11_screen_115 : decode cX11_screen 115 = .ok (.ireturn, 1) := by decide +kernel
theorem dX11_screen_116 : decode cX11_screen 116 = .ok (.aload_n 0, 1) := by decide +kernel
theorem dX11_screen_117 : decode cX11_screen 117 = .ok (.getfield 34, 3) := by decide +kernel
theorem dX11_screen_120 : decode cX11_screen 120 = .ok (.getfield 224, 3) := by decide +kernel
theorem dX11_screen_123 : decode cX11_screen 123 = .ok (.iload_n 1, 1) := by decide +kernel
theorem dX11_screen_124 : decode cX11_screen 124 = .ok (.iaload, 1) := by decide +kernel
theorem dX11_screen_125 : decode cX11_screen 125 = .ok (.ireturn, 1) := by decide +kernel
theorem dX11_screen_126 : decode cX11_screen 126 = .ok (.aload_n 0, 1) := by decide +kernel
theorem dX11_screen_127 : decode cX11_screen 127 = .ok (.getfield 34, 3) := by decide +kernel
theorem dX11_screen_130 : decode cX11_screen 130 = .ok (.getfield 227, 3) := by decide +kernel
theorem dX11_screen_133 : decode cX11_screen 133 = .ok (.iload_n 1, 1) := by decide +kernel
theorem dX11_screen_134 : decode cX11_screen 134 = .ok (.iaload, 1) := by decide +kernel
theorem dX11_screen_135 : decode cX11_screen 135 = .ok (.ireturn, 1) := by decide +kernel
theorem dX11_screen_136 : decode cX11_screen 136 = .ok (.aload_n 0, 1) := by decide +kernel
theorem dX11_screen_137 : decode cX11_screen 137 = .ok (.getfield 43, 3) := by decide +kernel
theorem dX11_screen_140 : decode cX11_screen 140 = .ok (.iload_n 1, 1) := by decide +kernel
theorem dX11_screen_141 : decode cX11_screen 141 = .ok (.invokevirtual 230, 3) := by decide +kernel
theorem dX11_screen_144 : decode cX11_screen 144 = .ok (.ireturn, 1) := by decide +kernel
theorem dX11_screen_145 : decode cX11_screen 145 = .ok (.new 176, 3) := by decide +kernel
theorem dX11_screen_148 : decode cX11_screen 148 = .ok (.dup, 1) := by decide +kernel
theorem dX11_screen_149 : decode cX11_screen 149 = .ok (.ldc 178, 2) := by decide +kernel
theorem dX11_screen_151 : decode cX11_screen 151 = .ok (.invokespecial 180, 3) := by decide +kernel
theorem dX11_screen_154 : decode cX11_screen 154 = .ok (.athrow, 1) := by decide +kernel
theorem dX11_film_0 : decode cX11_film 0 = .ok (.aload_n 0, 1) := by decide +kernel
theorem dX11_film_1 : decode cX11_film 1 = .ok (.iload_n 1, 1) := by decide +kernel
theorem dX11_film_2 : decode cX11_film 2 = .ok (.invokevirtual 233, 3) := by decide +kernel
theorem dX11_film_5 : decode cX11_film 5 = .ok (.iload_n 2, 1) := by decide +kernel
theorem dX11_film_6 : decode cX11_film 6 = .ok (.tableswitch 124 0 7 #[46, 56, 66, 76, 86, 95, 105, 114], 46) := by decide +kernel
theorem dX11_film_52 : decode cX11_film 52 = .ok (.aload_n 0, 1) := by decide +kernel
theorem dX11_film_53 : decode cX11_film 53 = .ok (.getfield 27, 3) := by decide +kernel
theorem dX11_film_56 : decode cX11_film 56 = .ok (.getfield 236, 3) := by decide +kernel
theorem dX11_film_59 : decode cX11_film 59 = .ok (.iload_n 1, 1) := by decide +kernel
theorem dX11_film_60 : decode cX11_film 60 = .ok (.iaload, 1) := by decide +kernel
theorem dX11_film_61 : decode cX11_film 61 = .ok (.ireturn, 1) := by decide +kernel
theorem dX11_film_62 : decode cX11_film 62 = .ok (.aload_n 0, 1) := by decide +kernel
theorem dX11_film_63 : decode cX11_film 63 = .ok (.getfield 27, 3) := by decide +kernel
theorem dX11_film_66 : decode cX11_film 66 = .ok (.getfield 239, 3) := by decide +kernel
theorem dX11_film_69 : decode cX11_film 69 = .ok (.iload_n 1, 1) := by decide +kernel
theorem dX11_film_70 : decode cX11_film 70 = .ok (.iaload, 1) := by decide +kernel
theorem dX11_film_71 : decode cX11_film 71 = .ok (.ireturn, 1) := by decide +kernel
theorem dX11_film_72 : decode cX11_film 72 = .ok (.aload_n 0, 1) := by decide +kernel
theorem dX11_film_73 : decode cX11_film 73 = .ok (.getfield 27, 3) := by decide +kernel
theorem dX11_film_76 : decode cX11_film 76 = .ok (.getfield 242, 3) := by decide +kernel
theorem dX11_film_79 : decode cX11_film 79 = .ok (.iload_n 1, 1) := by decide +kernel
theorem dX11_film_80 : decode cX11_film 80 = .ok (.iaload, 1) := by decide +kernel
theorem dX11_film_81 : decode cX11_film 81 = .ok (.ireturn, 1) := by decide +kernel
theorem dX11_film_82 : decode cX11_film 82 = .ok (.aload_n 0, 1) := by decide +kernel
theorem dX11_film_83 : decode cX11_film 83 = .ok (.getfield 27, 3) := by decide +kernel
theorem dX11_film_86 : decode cX11_film 86 = .ok (.getfield 245, 3) := by decide +kernel
theorem dX11_film_89 : decode cX11_film 89 = .ok (.iload_n 1, 1) := by decide +kernel
theorem dX11_film_90 : decode cX11_film 90 = .ok (.iaload, 1) := by decide +kernel
theorem dX11_film_91 : decode cX11_film 91 = .ok (.ireturn, 1) := by decide +kernel
theorem dX11_film_92 : decode cX11_film 92 = .ok (.aload_n 0, 1) := by decide +kernel
theorem dX11_film_93 : decode cX11_film 93 = .ok (.getfield 34, 3) := by decide +kernel
theorem dX11_film_96 : decode cX11_film 96 = .ok (.iload_n 1, 1) := by decide +kernel
theorem dX11_film_97 : decode cX11_film 97 = .ok (.invokevirtual 248, 3) := by decide +kernel
theorem dX11_film_100 : decode cX11_film 100 = .ok (.ireturn, 1) := by decide +kernel
theorem dX11_film_101 : decode cX11_film 101 = .ok (.aload_n 0, 1) := by decide +kernel
theorem dX11_film_102 : decode cX11_film 102 = .ok (.getfield 34, 3) := by decide +kernel
theorem dX11_film_105 : decode cX11_film 105 = .ok (.getfield 251, 3) := by decide +kernel
theorem dX11_film_108 : decode cX11_film 108 = .ok (.iload_n 1, 1) := by decide +kernel
theorem dX11_film_109 : decode cX11_film 109 = .ok (.iaload, 1) := by decide +kernel
theorem dX11_film_110 : decode cX11_film 110 = .ok (.ireturn, 1) := by decide +kernel
theorem dX11_film_111 : decode cX11_film 111 = .ok (.aload_n 0, 1) := by decide +kernel
theorem dX11_film_112 : decode cX11_film 112 = .ok (.getfield 43, 3) := by decide +kernel
theorem dX11_film_115 : decode cX11_film 115 = .ok (.iload_n 1, 1) := by decide +kernel
theorem dX11_film_116 : decode cX11_film 116 = .ok (.invokevirtual 254, 3) := by decide +kernel
theorem dX11_film_119 : decode cX11_film 119 = .ok (.ireturn, 1) := by decide +kernel
theorem dX11_film_120 : decode cX11_film 120 = .ok (.aload_n 0, 1) := by decide +kernel
theorem dX11_film_121 : decode cX11_film 121 = .ok (.getfield 34, 3) := by decide +kernel
theorem dX11_film_124 : decode cX11_film 124 = .ok (.getfield 257, 3) := by decide +kernel
theorem dX11_film_127 : decode cX11_film 127 = .ok (.iload_n 1, 1) := by decide +kernel
theorem dX11_film_128 : decode cX11_film 128 = .ok (.iaload, 1) := by decide +kernel
theorem dX11_film_129 : decode cX11_film 129 = .ok (.ireturn, 1) := by decide +kernel
theorem dX11_film_130 : decode cX11_film 130 = .ok (.new 176, 3) := by decide +kernel
theorem dX11_film_133 : decode cX11_film 133 = .ok (.dup, 1) := by decide +kernel
theorem dX11_film_134 : decode cX11_film 134 = .ok (.ldc 178, 2) := by decide +kernel
theorem dX11_film_136 : decode cX11_film 136 = .ok (.invokespecial 180, 3) := by decide +kernel
theorem dX11_film_139 : decode cX11_film 139 = .ok (.athrow, 1) := by decide +kernel
theorem dX11_prints_0 : decode cX11_prints 0 = .ok (.aload_n 0, 1) := by decide +kernel
theorem dX11_prints_1 : decode cX11_prints 1 = .ok (.iload_n 1, 1) := by decide +kernel
theorem dX11_prints_2 : decode cX11_prints 2 = .ok (.invokevirtual 233, 3) := by decide +kernel
theorem dX11_prints_5 : decode cX11_prints 5 = .ok (.aload_n 0, 1) := by decide +kernel
theorem dX11_prints_6 : decode cX11_prints 6 = .ok (.iload_n 2, 1) := by decide +kernel
theorem dX11_prints_7 : decode cX11_prints 7 = .ok (.invokevirtual 264, 3) := by decide +kernel
theorem dX11_prints_10 : decode cX11_prints 10 = .ok (.aload_n 0, 1) := by decide +kernel
theorem dX11_prints_11 : decode cX11_prints 11 = .ok (.getfield 34, 3) := by decide +kernel
theorem dX11_prints_14 : decode cX11_prints 14 = .ok (.iload_n 1, 1) := by decide +kernel
theorem dX11_prints_15 : decode cX11_prints 15 = .ok (.iload_n 2, 1) := by decide +kernel
theorem dX11_prints_16 : decode cX11_prints 16 = .ok (.invokevirtual 267, 3) := by decide +kernel
theorem dX11_prints_19 : decode cX11_prints 19 = .ok (.ireturn, 1) := by decide +kernel
theorem dX11_shown_0 : decode cX11_shown 0 = .ok (.aload_n 0, 1) := by decide +kernel
theorem dX11_shown_1 : decode cX11_shown 1 = .ok (.iload_n 1, 1) := by decide +kernel
theorem dX11_shown_2 : decode cX11_shown 2 = .ok (.invokevirtual 203, 3) := by decide +kernel
theorem dX11_shown_5 : decode cX11_shown 5 = .ok (.aload_n 0, 1) := by decide +kernel
theorem dX11_shown_6 : decode cX11_shown 6 = .ok (.iload_n 2, 1) := by decide +kernel
theorem dX11_shown_7 : decode cX11_shown 7 = .ok (.invokevirtual 271, 3) := by decide +kernel
theorem dX11_shown_10 : decode cX11_shown 10 = .ok (.aload_n 0, 1) := by decide +kernel
theorem dX11_shown_11 : decode cX11_shown 11 = .ok (.getfield 34, 3) := by decide +kernel
theorem dX11_shown_14 : decode cX11_shown 14 = .ok (.iload_n 1, 1) := by decide +kernel
theorem dX11_shown_15 : decode cX11_shown 15 = .ok (.iload_n 2, 1) := by decide +kernel
theorem dX11_shown_16 : decode cX11_shown 16 = .ok (.invokevirtual 274, 3) := by decide +kernel
theorem dX11_shown_19 : decode cX11_shown 19 = .ok (.ireturn, 1) := by decide +kernel
theorem dX11_visitors_0 : decode cX11_visitors 0 = .ok (.aload_n 0, 1) := by decide +kernel
theorem dX11_visitors_1 : decode cX11_visitors 1 = .ok (.iload_n 1, 1) := by decide +kernel
theorem dX11_visitors_2 : decode cX11_visitors 2 = .ok (.invokevirtual 203, 3) := by decide +kernel
theorem dX11_visitors_5 : decode cX11_visitors 5 = .ok (.aload_n 0, 1) := by decide +kernel
theorem dX11_visitors_6 : decode cX11_visitors 6 = .ok (.iload_n 2, 1) := by decide +kernel
theorem dX11_visitors_7 : decode cX11_visitors 7 = .ok (.invokevirtual 271, 3) := by decide +kernel
theorem dX11_visitors_10 : decode cX11_visitors 10 = .ok (.aload_n 0, 1) := by decide +kernel
theorem dX11_visitors_11 : decode cX11_visitors 11 = .ok (.getfield 43, 3) := by decide +kernel
theorem dX11_visitors_14 : decode cX11_visitors 14 = .ok (.iload_n 1, 1) := by decide +kernel
theorem dX11_visitors_15 : decode cX11_visitors 15 = .ok (.iload_n 2, 1) := by decide +kernel
theorem dX11_visitors_16 : decode cX11_visitors 16 = .ok (.invokevirtual 277, 3) := by decide +kernel
theorem dX11_visitors_19 : decode cX11_visitors 19 = .ok (.ireturn, 1) := by decide +kernel
theorem dX11_share_0 : decode cX11_share 0 = .ok (.aload_n 0, 1) := by decide +kernel
theorem dX11_share_1 : decode cX11_share 1 = .ok (.iload_n 1, 1) := by decide +kernel
theorem dX11_share_2 : decode cX11_share 2 = .ok (.invokevirtual 181, 3) := by decide +kernel
theorem dX11_share_5 : decode cX11_share 5 = .ok (.aload_n 0, 1) := by decide +kernel
theorem dX11_share_6 : decode cX11_share 6 = .ok (.iload_n 2, 1) := by decide +kernel
theorem dX11_share_7 : decode cX11_share 7 = .ok (.invokevirtual 233, 3) := by decide +kernel
theorem dX11_share_10 : decode cX11_share 10 = .ok (.aload_n 0, 1) := by decide +kernel
theorem dX11_share_11 : decode cX11_share 11 = .ok (.getfield 43, 3) := by decide +kernel
theorem dX11_share_14 : decode cX11_share 14 = .ok (.iload_n 1, 1) := by decide +kernel
theorem dX11_share_15 : decode cX11_share 15 = .ok (.iload_n 2, 1) := by decide +kernel
theorem dX11_share_16 : decode cX11_share 16 = .ok (.invokevirtual 280, 3) := by decide +kernel
theorem dX11_share_19 : decode cX11_share 19 = .ok (.ireturn, 1) := by decide +kernel
theorem dX11_run_0 : decode cX11_run 0 = .ok (.aload_n 0, 1) := by decide +kernel
theorem dX11_run_1 : decode cX11_run 1 = .ok (.iload_n 1, 1) := by decide +kernel
theorem dX11_run_2 : decode cX11_run 2 = .ok (.invokevirtual 181, 3) := by decide +kernel
theorem dX11_run_5 : decode cX11_run 5 = .ok (.aload_n 0, 1) := by decide +kernel
theorem dX11_run_6 : decode cX11_run 6 = .ok (.iload_n 2, 1) := by decide +kernel
theorem dX11_run_7 : decode cX11_run 7 = .ok (.invokevirtual 233, 3) := by decide +kernel
theorem dX11_run_10 : decode cX11_run 10 = .ok (.aload_n 0, 1) := by decide +kernel
theorem dX11_run_11 : decode cX11_run 11 = .ok (.getfield 34, 3) := by decide +kernel
theorem dX11_run_14 : decode cX11_run 14 = .ok (.iload_n 1, 1) := by decide +kernel
theorem dX11_run_15 : decode cX11_run 15 = .ok (.iload_n 2, 1) := by decide +kernel
theorem dX11_run_16 : decode cX11_run 16 = .ok (.invokevirtual 283, 3) := by decide +kernel
theorem dX11_run_19 : decode cX11_run 19 = .ok (.ireturn, 1) := by decide +kernel
theorem dX11_wouldHold_0 : decode cX11_wouldHold 0 = .ok (.aload_n 0, 1) := by decide +kernel
theorem dX11_wouldHold_1 : decode cX11_wouldHold 1 = .ok (.iload_n 1, 1) := by decide +kernel
theorem dX11_wouldHold_2 : decode cX11_wouldHold 2 = .ok (.invokevirtual 203, 3) := by decide +kernel
theorem dX11_wouldHold_5 : decode cX11_wouldHold 5 = .ok (.aload_n 0, 1) := by decide +kernel
theorem dX11_wouldHold_6 : decode cX11_wouldHold 6 = .ok (.getfield 43, 3) := by decide +kernel
theorem dX11_wouldHold_9 : decode cX11_wouldHold 9 = .ok (.iload_n 1, 1) := by decide +kernel
theorem dX11_wouldHold_10 : decode cX11_wouldHold 10 = .ok (.invokevirtual 286, 3) := by decide +kernel
theorem dX11_wouldHold_13 : decode cX11_wouldHold 13 = .ok (.ireturn, 1) := by decide +kernel
theorem dX11_chart_0 : decode cX11_chart 0 = .ok (.iload_n 1, 1) := by decide +kernel
theorem dX11_chart_1 : decode cX11_chart 1 = .ok (.ifCond .lt 14, 3) := by decide +kernel
theorem dX11_chart_4 : decode cX11_chart 4 = .ok (.iload_n 1, 1) := by decide +kernel
theorem dX11_chart_5 : decode cX11_chart 5 = .ok (.aload_n 0, 1) := by decide +kernel
theorem dX11_chart_6 : decode cX11_chart 6 = .ok (.getfield 27, 3) := by decide +kernel
theorem dX11_chart_9 : decode cX11_chart 9 = .ok (.getfield 158, 3) := by decide +kernel
theorem dX11_chart_12 : decode cX11_chart 12 = .ok (.if_icmp .lt 14, 3) := by decide +kernel
theorem dX11_chart_15 : decode cX11_chart 15 = .ok (.new 176, 3) := by decide +kernel
theorem dX11_chart_18 : decode cX11_chart 18 = .ok (.dup, 1) := by decide +kernel
theorem dX11_chart_19 : decode cX11_chart 19 = .ok (.ldc_w 293, 3) := by decide +kernel
theorem dX11_chart_22 : decode cX11_chart 22 = .ok (.invokespecial 180, 3) := by decide +kernel
theorem dX11_chart_25 : decode cX11_chart 25 = .ok (.athrow, 1) := by decide +kernel
theorem dX11_chart_26 : decode cX11_chart 26 = .ok (.aload_n 0, 1) := by decide +kernel
theorem dX11_chart_27 : decode cX11_chart 27 = .ok (.getfield 43, 3) := by decide +kernel
theorem dX11_chart_30 : decode cX11_chart 30 = .ok (.iload_n 1, 1) := by decide +kernel
theorem dX11_chart_31 : decode cX11_chart 31 = .ok (.invokevirtual 295, 3) := by decide +kernel
theorem dX11_chart_34 : decode cX11_chart 34 = .ok (.ireturn, 1) := by decide +kernel
theorem dX11_bestGain_0 : decode cX11_bestGain 0 = .ok (.aload_n 0, 1) := by decide +kernel
theorem dX11_bestGain_1 : decode cX11_bestGain 1 = .ok (.iload_n 1, 1) := by decide +kernel
theorem dX11_bestGain_2 : decode cX11_bestGain 2 = .ok (.invokevirtual 181, 3) := by decide +kernel
theorem dX11_bestGain_5 : decode cX11_bestGain 5 = .ok (.aload_n 0, 1) := by decide +kernel
theorem dX11_bestGain_6 : decode cX11_bestGain 6 = .ok (.getfield 52, 3) := by decide +kernel
theorem dX11_bestGain_9 : decode cX11_bestGain 9 = .ok (.iload_n 1, 1) := by decide +kernel
theorem dX11_bestGain_10 : decode cX11_bestGain 10 = .ok (.invokevirtual 298, 3) := by decide +kernel
theorem dX11_bestGain_13 : decode cX11_bestGain 13 = .ok (.ireturn, 1) := by decide +kernel
theorem dX11_bestFilm_0 : decode cX11_bestFilm 0 = .ok (.aload_n 0, 1) := by decide +kernel
theorem dX11_bestFilm_1 : decode cX11_bestFilm 1 = .ok (.iload_n 1, 1) := by decide +kernel
theorem dX11_bestFilm_2 : decode cX11_bestFilm 2 = .ok (.invokevirtual 203, 3) := by decide +kernel
theorem dX11_bestFilm_5 : decode cX11_bestFilm 5 = .ok (.aload_n 0, 1) := by decide +kernel
theorem dX11_bestFilm_6 : decode cX11_bestFilm 6 = .ok (.getfield 52, 3) := by decide +kernel
theorem dX11_bestFilm_9 : decode cX11_bestFilm 9 = .ok (.aload_n 0, 1) := by decide +kernel
theorem dX11_bestFilm_10 : decode cX11_bestFilm 10 = .ok (.getfield 27, 3) := by decide +kernel
theorem dX11_bestFilm_13 : decode cX11_bestFilm 13 = .ok (.getfield 206, 3) := by decide +kernel
theorem dX11_bestFilm_16 : decode cX11_bestFilm 16 = .ok (.iload_n 1, 1) := by decide +kernel
theorem dX11_bestFilm_17 : decode cX11_bestFilm 17 = .ok (.iaload, 1) := by decide +kernel
theorem dX11_bestFilm_18 : decode cX11_bestFilm 18 = .ok (.invokevirtual 301, 3) := by decide +kernel
theorem dX11_bestFilm_21 : decode cX11_bestFilm 21 = .ok (.aload_n 0, 1) := by decide +kernel
theorem dX11_bestFilm_22 : decode cX11_bestFilm 22 = .ok (.getfield 52, 3) := by decide +kernel
theorem dX11_bestFilm_25 : decode cX11_bestFilm 25 = .ok (.iload_n 1, 1) := by decide +kernel
theorem dX11_bestFilm_26 : decode cX11_bestFilm 26 = .ok (.invokevirtual 304, 3) := by decide +kernel
theorem dX11_bestFilm_29 : decode cX11_bestFilm 29 = .ok (.ireturn, 1) := by decide +kernel
theorem dX11_total_0 : decode cX11_total 0 = .ok (.aload_n 0, 1) := by decide +kernel
theorem dX11_total_1 : decode cX11_total 1 = .ok (.getfield 34, 3) := by decide +kernel
theorem dX11_total_4 : decode cX11_total 4 = .ok (.getfield 311, 3) := by decide +kernel
theorem dX11_total_7 : decode cX11_total 7 = .ok (.astore_n 2, 1) := by decide +kernel
theorem dX11_total_8 : decode cX11_total 8 = .ok (.iload_n 1, 1) := by decide +kernel
theorem dX11_total_9 : decode cX11_total 9 = .ok (.iconst 4, 1) := by decide +kernel
theorem dX11_total_10 : decode cX11_total 10 = .ok (.if_icmp .ne 19, 3) := by decide +kernel
theorem dX11_total_13 : decode cX11_total 13 = .ok (.aload_n 2, 1) := by decide +kernel
theorem dX11_total_14 : decode cX11_total 14 = .ok (.iconst 0, 1) := by decide +kernel
theorem dX11_total_15 : decode cX11_total 15 = .ok (.iaload, 1) := by decide +kernel
theorem dX11_total_16 : decode cX11_total 16 = .ok (.aload_n 2, 1) := by decide +kernel
theorem dX11_total_17 : decode cX11_total 17 = .ok (.iconst 1, 1) := by decide +kernel
theorem dX11_total_18 : decode cX11_total 18 = .ok (.iaload, 1) := by decide +kernel
theorem dX11_total_19 : decode cX11_total 19 = .ok (.isub, 1) := by decide +kernel
theorem dX11_total_20 : decode cX11_total 20 = .ok (.aload_n 2, 1) := by decide +kernel
theorem dX11_total_21 : decode cX11_total 21 = .ok (.iconst 2, 1) := by decide +kernel
theorem dX11_total_22 : decode cX11_total 22 = .ok (.iaload, 1) := by decide +kernel
theorem dX11_total_23 : decode cX11_total 23 = .ok (.isub, 1) := by decide +kernel
theorem dX11_total_24 : decode cX11_total 24 = .ok (.aload_n 2, 1) := by decide +kernel
theorem dX11_total_25 : decode cX11_total 25 = .ok (.iconst 3, 1) := by decide +kernel
theorem dX11_total_26 : decode cX11_total 26 = .ok (.iaload, 1) := by decide +kernel
theorem dX11_total_27 : decode cX11_total 27 = .ok (.isub, 1) := by decide +kernel
theorem dX11_total_28 : decode cX11_total 28 = .ok (.ireturn, 1) := by decide +kernel
theorem dX11_total_29 : decode cX11_total 29 = .ok (.iload_n 1, 1) := by decide +kernel
theorem dX11_total_30 : decode cX11_total 30 = .ok (.ifCond .lt 8, 3) := by decide +kernel
theorem dX11_total_33 : decode cX11_total 33 = .ok (.iload_n 1, 1) := by decide +kernel
theorem dX11_total_34 : decode cX11_total 34 = .ok (.iconst 4, 1) := by decide +kernel
theorem dX11_total_35 : decode cX11_total 35 = .ok (.if_icmp .le 13, 3) := by decide +kernel
theorem dX11_total_38 : decode cX11_total 38 = .ok (.new 176, 3) := by decide +kernel
theorem dX11_total_41 : decode cX11_total 41 = .ok (.dup, 1) := by decide +kernel
theorem dX11_total_42 : decode cX11_total 42 = .ok (.ldc 178, 2) := by decide +kernel
theorem dX11_total_44 : decode cX11_total 44 = .ok (.invokespecial 180, 3) := by decide +kernel
theorem dX11_total_47 : decode cX11_total 47 = .ok (.athrow, 1) := by decide +kernel
theorem dX11_total_48 : decode cX11_total 48 = .ok (.aload_n 2, 1) := by decide +kernel
theorem dX11_total_49 : decode cX11_total 49 = .ok (.iload_n 1, 1) := by decide +kernel
theorem dX11_total_50 : decode cX11_total 50 = .ok (.iaload, 1) := by decide +kernel
theorem dX11_total_51 : decode cX11_total 51 = .ok (.ireturn, 1) := by decide +kernel
theorem dX11_closed_0 : decode cX11_closed 0 = .ok (.iload_n 1, 1) := by decide +kernel
theorem dX11_closed_1 : decode cX11_closed 1 = .ok (.ifCond .lt 20, 3) := by decide +kernel
theorem dX11_closed_4 : decode cX11_closed 4 = .ok (.iload_n 1, 1) := by decide +kernel
theorem dX11_closed_5 : decode cX11_closed 5 = .ok (.aload_n 0, 1) := by decide +kernel
theorem dX11_closed_6 : decode cX11_closed 6 = .ok (.getfield 34, 3) := by decide +kernel
theorem dX11_closed_9 : decode cX11_closed 9 = .ok (.getfield 161, 3) := by decide +kernel
theorem dX11_closed_12 : decode cX11_closed 12 = .ok (.if_icmp .ge 9, 3) := by decide +kernel
theorem dX11_closed_15 : decode cX11_closed 15 = .ok (.iload_n 1, 1) := by decide +kernel
theorem dX11_closed_16 : decode cX11_closed 16 = .ok (.bipush 20, 2) := by decide +kernel
theorem dX11_closed_18 : decode cX11_closed 18 = .ok (.if_icmp .lt 14, 3) := by decide +kernel
theorem dX11_closed_21 : decode cX11_closed 21 = .ok (.new 176, 3) := by decide +kernel
theorem dX11_closed_24 : decode cX11_closed 24 = .ok (.dup, 1) := by decide +kernel
theorem dX11_closed_25 : decode cX11_closed 25 = .ok (.ldc_w 314, 3) := by decide +kernel
theorem dX11_closed_28 : decode cX11_closed 28 = .ok (.invokespecial 180, 3) := by decide +kernel
theorem dX11_closed_31 : decode cX11_closed 31 = .ok (.athrow, 1) := by decide +kernel
theorem dX11_closed_32 : decode cX11_closed 32 = .ok (.iload_n 2, 1) := by decide +kernel
theorem dX11_closed_33 : decode cX11_closed 33 = .ok (.ifCond .lt 8, 3) := by decide +kernel
theorem dX11_closed_36 : decode cX11_closed 36 = .ok (.iload_n 2, 1) := by decide +kernel
theorem dX11_closed_37 : decode cX11_closed 37 = .ok (.iconst 5, 1) := by decide +kernel
theorem dX11_closed_38 : decode cX11_closed 38 = .ok (.if_icmp .lt 13, 3) := by decide +kernel
theorem dX11_closed_41 : decode cX11_closed 41 = .ok (.new 176, 3) := by decide +kernel
theorem dX11_closed_44 : decode cX11_closed 44 = .ok (.dup, 1) := by decide +kernel
theorem dX11_closed_45 : decode cX11_closed 45 = .ok (.ldc 178, 2) := by decide +kernel
theorem dX11_closed_47 : decode cX11_closed 47 = .ok (.invokespecial 180, 3) := by decide +kernel
theorem dX11_closed_50 : decode cX11_closed 50 = .ok (.athrow, 1) := by decide +kernel
theorem dX11_closed_51 : decode cX11_closed 51 = .ok (.aload_n 0, 1) := by decide +kernel
theorem dX11_closed_52 : decode cX11_closed 52 = .ok (.getfield 34, 3) := by decide +kernel
theorem dX11_closed_55 : decode cX11_closed 55 = .ok (.aload_n 0, 1) := by decide +kernel
theorem dX11_closed_56 : decode cX11_closed 56 = .ok (.getfield 34, 3) := by decide +kernel
theorem dX11_closed_59 : decode cX11_closed 59 = .ok (.getfield 161, 3) := by decide +kernel
theorem dX11_closed_62 : decode cX11_closed 62 = .ok (.iconst 1, 1) := by decide +kernel
theorem dX11_closed_63 : decode cX11_closed 63 = .ok (.isub, 1) := by decide +kernel
theorem dX11_closed_64 : decode cX11_closed 64 = .ok (.iload_n 1, 1) := by decide +kernel
theorem dX11_closed_65 : decode cX11_closed 65 = .ok (.isub, 1) := by decide +kernel
theorem dX11_closed_66 : decode cX11_closed 66 = .ok (.iload_n 2, 1) := by decide +kernel
theorem dX11_closed_67 : decode cX11_closed 67 = .ok (.invokevirtual 316, 3) := by decide +kernel
theorem dX11_closed_70 : decode cX11_closed 70 = .ok (.ireturn, 1) := by decide +kernel
theorem dX11_book_0 : decode cX11_book 0 = .ok (.aload_n 0, 1) := by decide +kernel
theorem dX11_book_1 : decode cX11_book 1 = .ok (.iload_n 1, 1) := by decide +kernel
theorem dX11_book_2 : decode cX11_book 2 = .ok (.invokevirtual 203, 3) := by decide +kernel
theorem dX11_book_5 : decode cX11_book 5 = .ok (.aload_n 0, 1) := by decide +kernel
theorem dX11_book_6 : decode cX11_book 6 = .ok (.iload_n 2, 1) := by decide +kernel
theorem dX11_book_7 : decode cX11_book 7 = .ok (.invokevirtual 233, 3) := by decide +kernel
theorem dX11_book_10 : decode cX11_book 10 = .ok (.aload_n 0, 1) := by decide +kernel
theorem dX11_book_11 : decode cX11_book 11 = .ok (.iload_n 1, 1) := by decide +kernel
theorem dX11_book_12 : decode cX11_book 12 = .ok (.iload_n 2, 1) := by decide +kernel
theorem dX11_book_13 : decode cX11_book 13 = .ok (.iconst (-1), 1) := by decide +kernel
theorem dX11_book_14 : decode cX11_book 14 = .ok (.iconst 0, 1) := by decide +kernel
theorem dX11_book_15 : decode cX11_book 15 = .ok (.invokevirtual 325, 3) := by decide +kernel
theorem dX11_book_18 : decode cX11_book 18 = .ok (.ireturn, 1) := by decide +kernel
theorem dX11_split_0 : decode cX11_split 0 = .ok (.aload_n 0, 1) := by decide +kernel
theorem dX11_split_1 : decode cX11_split 1 = .ok (.iload_n 1, 1) := by decide +kernel
theorem dX11_split_2 : decode cX11_split 2 = .ok (.invokevirtual 203, 3) := by decide +kernel
theorem dX11_split_5 : decode cX11_split 5 = .ok (.aload_n 0, 1) := by decide +kernel
theorem dX11_split_6 : decode cX11_split 6 = .ok (.iload_n 2, 1) := by decide +kernel
theorem dX11_split_7 : decode cX11_split 7 = .ok (.invokevirtual 233, 3) := by decide +kernel
theorem dX11_split_10 : decode cX11_split 10 = .ok (.aload_n 0, 1) := by decide +kernel
theorem dX11_split_11 : decode cX11_split 11 = .ok (.iload_n 3, 1) := by decide +kernel
theorem dX11_split_12 : decode cX11_split 12 = .ok (.invokevirtual 233, 3) := by decide +kernel
theorem dX11_split_15 : decode cX11_split 15 = .ok (.iload_n 2, 1) := by decide +kernel
theorem dX11_split_16 : decode cX11_split 16 = .ok (.iload_n 3, 1) := by decide +kernel
theorem dX11_split_17 : decode cX11_split 17 = .ok (.if_icmp .eq 16, 3) := by decide +kernel
theorem dX11_split_20 : decode cX11_split 20 = .ok (.iload 4, 2) := by decide +kernel
theorem dX11_split_22 : decode cX11_split 22 = .ok (.iconst 1, 1) := by decide +kernel
theorem dX11_split_23 : decode cX11_split 23 = .ok (.if_icmp .lt 10, 3) := by decide +kernel
theorem dX11_split_26 : decode cX11_split 26 = .ok (.iload 4, 2) := by decide +kernel
theorem dX11_split_28 : decode cX11_split 28 = .ok (.bipush 7, 2) := by decide +kernel
theorem dX11_split_30 : decode cX11_split 30 = .ok (.if_icmp .lt 14, 3) := by decide +kernel
theorem dX11_split_33 : decode cX11_split 33 = .ok (.new 147, 3) := by decide +kernel
theorem dX11_split_36 : decode cX11_split 36 = .ok (.dup, 1) := by decide +kernel
theorem dX11_split_37 : decode cX11_split 37 = .ok (.ldc_w 329, 3) := by decide +kernel
theorem dX11_split_40 : decode cX11_split 40 = .ok (.invokespecial 151, 3) := by decide +kernel
theorem dX11_split_43 : decode cX11_split 43 = .ok (.athrow, 1) := by decide +kernel
theorem dX11_split_44 : decode cX11_split 44 = .ok (.aload_n 0, 1) := by decide +kernel
theorem dX11_split_45 : decode cX11_split 45 = .ok (.iload_n 1, 1) := by decide +kernel
theorem dX11_split_46 : decode cX11_split 46 = .ok (.iload_n 2, 1) := by decide +kernel
theorem dX11_split_47 : decode cX11_split 47 = .ok (.iload_n 3, 1) := by decide +kernel
theorem dX11_split_48 : decode cX11_split 48 = .ok (.iload 4, 2) := by decide +kernel
theorem dX11_split_50 : decode cX11_split 50 = .ok (.invokevirtual 325, 3) := by decide +kernel
theorem dX11_split_53 : decode cX11_split 53 = .ok (.ireturn, 1) := by decide +kernel
theorem dX11_takeBooking_0 : decode cX11_takeBooking 0 = .ok (.aload_n 0, 1) := by decide +kernel
theorem dX11_takeBooking_1 : decode cX11_takeBooking 1 = .ok (.getfield 34, 3) := by decide +kernel
theorem dX11_takeBooking_4 : decode cX11_takeBooking 4 = .ok (.getfield 227, 3) := by decide +kernel
theorem dX11_takeBooking_7 : decode cX11_takeBooking 7 = .ok (.iload_n 1, 1) := by decide +kernel
theorem dX11_takeBooking_8 : decode cX11_takeBooking 8 = .ok (.iaload, 1) := by decide +kernel
theorem dX11_takeBooking_9 : decode cX11_takeBooking 9 = .ok (.ifCond .eq 6, 3) := by decide +kernel
theorem dX11_takeBooking_12 : decode cX11_takeBooking 12 = .ok (.bipush (-2), 2) := by decide +kernel
theorem dX11_takeBooking_14 : decode cX11_takeBooking 14 = .ok (.ireturn, 1) := by decide +kernel
theorem dX11_takeBooking_15 : decode cX11_takeBooking 15 = .ok (.aload_n 0, 1) := by decide +kernel
theorem dX11_takeBooking_16 : decode cX11_takeBooking 16 = .ok (.getfield 43, 3) := by decide +kernel
theorem dX11_takeBooking_19 : decode cX11_takeBooking 19 = .ok (.iload_n 1, 1) := by decide +kernel
theorem dX11_takeBooking_20 : decode cX11_takeBooking 20 = .ok (.iload_n 2, 1) := by decide +kernel
theorem dX11_takeBooking_21 : decode cX11_takeBooking 21 = .ok (.iload_n 3, 1) := by decide +kernel
theorem dX11_takeBooking_22 : decode cX11_takeBooking 22 = .ok (.iload 4, 2) := by decide +kernel
theorem dX11_takeBooking_24 : decode cX11_takeBooking 24 = .ok (.invokevirtual 331, 3) := by decide +kernel
theorem dX11_takeBooking_27 : decode cX11_takeBooking 27 = .ok (.ifCond .ne 6, 3) := by decide +kernel
theorem dX11_takeBooking_30 : decode cX11_takeBooking 30 = .ok (.bipush (-3), 2) := by decide +kernel
theorem dX11_takeBooking_32 : decode cX11_takeBooking 32 = .ok (.ireturn, 1) := by decide +kernel
theorem dX11_takeBooking_33 : decode cX11_takeBooking 33 = .ok (.aload_n 0, 1) := by decide +kernel
theorem dX11_takeBooking_34 : decode cX11_takeBooking 34 = .ok (.getfield 66, 3) := by decide +kernel
theorem dX11_takeBooking_37 : decode cX11_takeBooking 37 = .ok (.aload_n 0, 1) := by decide +kernel
theorem dX11_takeBooking_38 : decode cX11_takeBooking 38 = .ok (.getfield 34, 3) := by decide +kernel
theorem dX11_takeBooking_41 : decode cX11_takeBooking 41 = .ok (.invokevirtual 335, 3) := by decide +kernel
theorem dX11_takeBooking_44 : decode cX11_takeBooking 44 = .ok (.aload_n 0, 1) := by decide +kernel
theorem dX11_takeBooking_45 : decode cX11_takeBooking 45 = .ok (.getfield 34, 3) := by decide +kernel
theorem dX11_takeBooking_48 : decode cX11_takeBooking 48 = .ok (.iload_n 1, 1) := by decide +kernel
theorem dX11_takeBooking_49 : decode cX11_takeBooking 49 = .ok (.iload_n 2, 1) := by decide +kernel
theorem dX11_takeBooking_50 : decode cX11_takeBooking 50 = .ok (.iload_n 3, 1) := by decide +kernel
theorem dX11_takeBooking_51 : decode cX11_takeBooking 51 = .ok (.iload 4, 2) := by decide +kernel
theorem dX11_takeBooking_53 : decode cX11_takeBooking 53 = .ok (.invokevirtual 338, 3) := by decide +kernel
theorem dX11_takeBooking_56 : decode cX11_takeBooking 56 = .ok (.aload_n 0, 1) := by decide +kernel
theorem dX11_takeBooking_57 : decode cX11_takeBooking 57 = .ok (.getfield 43, 3) := by decide +kernel
theorem dX11_takeBooking_60 : decode cX11_takeBooking 60 = .ok (.invokevirtual 136, 3) := by decide +kernel
theorem dX11_takeBooking_63 : decode cX11_takeBooking 63 = .ok (.aload_n 0, 1) := by decide +kernel
theorem dX11_takeBooking_64 : decode cX11_takeBooking 64 = .ok (.getfield 43, 3) := by decide +kernel
theorem dX11_takeBooking_67 : decode cX11_takeBooking 67 = .ok (.iload_n 1, 1) := by decide +kernel
theorem dX11_takeBooking_68 : decode cX11_takeBooking 68 = .ok (.invokevirtual 230, 3) := by decide +kernel
theorem dX11_takeBooking_71 : decode cX11_takeBooking 71 = .ok (.ireturn, 1) := by decide +kernel
theorem dX11_empty_0 : decode cX11_empty 0 = .ok (.aload_n 0, 1) := by decide +kernel
theorem dX11_empty_1 : decode cX11_empty 1 = .ok (.iload_n 1, 1) := by decide +kernel
theorem dX11_empty_2 : decode cX11_empty 2 = .ok (.invokevirtual 203, 3) := by decide +kernel
theorem dX11_empty_5 : decode cX11_empty 5 = .ok (.aload_n 0, 1) := by decide +kernel
theorem dX11_empty_6 : decode cX11_empty 6 = .ok (.getfield 34, 3) := by decide +kernel
theorem dX11_empty_9 : decode cX11_empty 9 = .ok (.getfield 227, 3) := by decide +kernel
theorem dX11_empty_12 : decode cX11_empty 12 = .ok (.iload_n 1, 1) := by decide +kernel
theorem dX11_empty_13 : decode cX11_empty 13 = .ok (.iaload, 1) := by decide +kernel
theorem dX11_empty_14 : decode cX11_empty 14 = .ok (.ifCond .eq 6, 3) := by decide +kernel
theorem dX11_empty_17 : decode cX11_empty 17 = .ok (.bipush (-2), 2) := by decide +kernel
theorem dX11_empty_19 : decode cX11_empty 19 = .ok (.ireturn, 1) := by decide +kernel
theorem dX11_empty_20 : decode cX11_empty 20 = .ok (.aload_n 0, 1) := by decide +kernel
theorem dX11_empty_21 : decode cX11_empty 21 = .ok (.getfield 66, 3) := by decide +kernel
theorem dX11_empty_24 : decode cX11_empty 24 = .ok (.aload_n 0, 1) := by decide +kernel
theorem dX11_empty_25 : decode cX11_empty 25 = .ok (.getfield 34, 3) := by decide +kernel
theorem dX11_empty_28 : decode cX11_empty 28 = .ok (.invokevirtual 335, 3) := by decide +kernel
theorem dX11_empty_31 : decode cX11_empty 31 = .ok (.aload_n 0, 1) := by decide +kernel
theorem dX11_empty_32 : decode cX11_empty 32 = .ok (.getfield 34, 3) := by decide +kernel
theorem dX11_empty_35 : decode cX11_empty 35 = .ok (.getfield 218, 3) := by decide +kernel
theorem dX11_empty_38 : decode cX11_empty 38 = .ok (.iload_n 1, 1) := by decide +kernel
theorem dX11_empty_39 : decode cX11_empty 39 = .ok (.iaload, 1) := by decide +kernel
theorem dX11_empty_40 : decode cX11_empty 40 = .ok (.istore_n 2, 1) := by decide +kernel
theorem dX11_empty_41 : decode cX11_empty 41 = .ok (.aload_n 0, 1) := by decide +kernel
theorem dX11_empty_42 : decode cX11_empty 42 = .ok (.getfield 34, 3) := by decide +kernel
theorem dX11_empty_45 : decode cX11_empty 45 = .ok (.iload_n 1, 1) := by decide +kernel
theorem dX11_empty_46 : decode cX11_empty 46 = .ok (.iconst (-1), 1) := by decide +kernel
theorem dX11_empty_47 : decode cX11_empty 47 = .ok (.iconst (-1), 1) := by decide +kernel
theorem dX11_empty_48 : decode cX11_empty 48 = .ok (.iconst 0, 1) := by decide +kernel
theorem dX11_empty_49 : decode cX11_empty 49 = .ok (.invokevirtual 338, 3) := by decide +kernel
theorem dX11_empty_52 : decode cX11_empty 52 = .ok (.aload_n 0, 1) := by decide +kernel
theorem dX11_empty_53 : decode cX11_empty 53 = .ok (.getfield 43, 3) := by decide +kernel
theorem dX11_empty_56 : decode cX11_empty 56 = .ok (.invokevirtual 136, 3) := by decide +kernel
theorem dX11_empty_59 : decode cX11_empty 59 = .ok (.iload_n 2, 1) := by decide +kernel
theorem dX11_empty_60 : decode cX11_empty 60 = .ok (.ireturn, 1) := by decide +kernel
theorem dX11_move_0 : decode cX11_move 0 = .ok (.aload_n 0, 1) := by decide +kernel
theorem dX11_move_1 : decode cX11_move 1 = .ok (.iload_n 1, 1) := by decide +kernel
theorem dX11_move_2 : decode cX11_move 2 = .ok (.invokevirtual 233, 3) := by decide +kernel
theorem dX11_move_5 : decode cX11_move 5 = .ok (.aload_n 0, 1) := by decide +kernel
theorem dX11_move_6 : decode cX11_move 6 = .ok (.iload_n 2, 1) := by decide +kernel
theorem dX11_move_7 : decode cX11_move 7 = .ok (.invokevirtual 264, 3) := by decide +kernel
theorem dX11_move_10 : decode cX11_move 10 = .ok (.aload_n 0, 1) := by decide +kernel
theorem dX11_move_11 : decode cX11_move 11 = .ok (.iload_n 3, 1) := by decide +kernel
theorem dX11_move_12 : decode cX11_move 12 = .ok (.invokevirtual 264, 3) := by decide +kernel
theorem dX11_move_15 : decode cX11_move 15 = .ok (.iload_n 2, 1) := by decide +kernel
theorem dX11_move_16 : decode cX11_move 16 = .ok (.iload_n 3, 1) := by decide +kernel
theorem dX11_move_17 : decode cX11_move 17 = .ok (.if_icmp .ne 14, 3) := by decide +kernel
theorem dX11_move_20 : decode cX11_move 20 = .ok (.new 147, 3) := by decide +kernel
theorem dX11_move_23 : decode cX11_move 23 = .ok (.dup, 1) := by decide +kernel
theorem dX11_move_24 : decode cX11_move 24 = .ok (.ldc_w 342, 3) := by decide +kernel
theorem dX11_move_27 : decode cX11_move 27 = .ok (.invokespecial 151, 3) := by decide +kernel
theorem dX11_move_30 : decode cX11_move 30 = .ok (.athrow, 1) := by decide +kernel
theorem dX11_move_31 : decode cX11_move 31 = .ok (.aload_n 0, 1) := by decide +kernel
theorem dX11_move_32 : decode cX11_move 32 = .ok (.getfield 34, 3) := by decide +kernel
theorem dX11_move_35 : decode cX11_move 35 = .ok (.iload_n 1, 1) := by decide +kernel
theorem dX11_move_36 : decode cX11_move 36 = .ok (.iload_n 2, 1) := by decide +kernel
theorem dX11_move_37 : decode cX11_move 37 = .ok (.invokevirtual 267, 3) := by decide +kernel
theorem dX11_move_40 : decode cX11_move 40 = .ok (.istore 4, 2) := by decide +kernel
theorem dX11_move_42 : decode cX11_move 42 = .ok (.iload 4, 2) := by decide +kernel
theorem dX11_move_44 : decode cX11_move 44 = .ok (.ifCond .ne 6, 3) := by decide +kernel
theorem dX11_move_47 : decode cX11_move 47 = .ok (.bipush (-2), 2) := by decide +kernel
theorem dX11_move_49 : decode cX11_move 49 = .ok (.ireturn, 1) := by decide +kernel
theorem dX11_move_50 : decode cX11_move 50 = .ok (.iload 4, 2) := by decide +kernel
theorem dX11_move_52 : decode cX11_move 52 = .ok (.aload_n 0, 1) := by decide +kernel
theorem dX11_move_53 : decode cX11_move 53 = .ok (.getfield 43, 3) := by decide +kernel
theorem dX11_move_56 : decode cX11_move 56 = .ok (.iload_n 1, 1) := by decide +kernel
theorem dX11_move_57 : decode cX11_move 57 = .ok (.iload_n 2, 1) := by decide +kernel
theorem dX11_move_58 : decode cX11_move 58 = .ok (.invokevirtual 344, 3) := by decide +kernel
theorem dX11_move_61 : decode cX11_move 61 = .ok (.if_icmp .gt 6, 3) := by decide +kernel
theorem dX11_move_64 : decode cX11_move 64 = .ok (.bipush (-3), 2) := by decide +kernel
theorem dX11_move_66 : decode cX11_move 66 = .ok (.ireturn, 1) := by decide +kernel
theorem dX11_move_67 : decode cX11_move 67 = .ok (.aload_n 0, 1) := by decide +kernel
theorem dX11_move_68 : decode cX11_move 68 = .ok (.getfield 34, 3) := by decide +kernel
theorem dX11_move_71 : decode cX11_move 71 = .ok (.iload_n 1, 1) := by decide +kernel
theorem dX11_move_72 : decode cX11_move 72 = .ok (.iload_n 3, 1) := by decide +kernel
theorem dX11_move_73 : decode cX11_move 73 = .ok (.invokevirtual 267, 3) := by decide +kernel
theorem dX11_move_76 : decode cX11_move 76 = .ok (.bipush 9, 2) := by decide +kernel
theorem dX11_move_78 : decode cX11_move 78 = .ok (.if_icmp .lt 6, 3) := by decide +kernel
theorem dX11_move_81 : decode cX11_move 81 = .ok (.bipush (-4), 2) := by decide +kernel
theorem dX11_move_83 : decode cX11_move 83 = .ok (.ireturn, 1) := by decide +kernel
theorem dX11_move_84 : decode cX11_move 84 = .ok (.aload_n 0, 1) := by decide +kernel
theorem dX11_move_85 : decode cX11_move 85 = .ok (.getfield 66, 3) := by decide +kernel
theorem dX11_move_88 : decode cX11_move 88 = .ok (.aload_n 0, 1) := by decide +kernel
theorem dX11_move_89 : decode cX11_move 89 = .ok (.getfield 34, 3) := by decide +kernel
theorem dX11_move_92 : decode cX11_move 92 = .ok (.invokevirtual 335, 3) := by decide +kernel
theorem dX11_move_95 : decode cX11_move 95 = .ok (.aload_n 0, 1) := by decide +kernel
theorem dX11_move_96 : decode cX11_move 96 = .ok (.getfield 34, 3) := by decide +kernel
theorem dX11_move_99 : decode cX11_move 99 = .ok (.iload_n 1, 1) := by decide +kernel
theorem dX11_move_100 : decode cX11_move 100 = .ok (.iload_n 2, 1) := by decide +kernel
theorem dX11_move_101 : decode cX11_move 101 = .ok (.iconst (-1), 1) := by decide +kernel
theorem dX11_move_102 : decode cX11_move 102 = .ok (.invokevirtual 347, 3) := by decide +kernel
theorem dX11_move_105 : decode cX11_move 105 = .ok (.aload_n 0, 1) := by decide +kernel
theorem dX11_move_106 : decode cX11_move 106 = .ok (.getfield 34, 3) := by decide +kernel
theorem dX11_move_109 : decode cX11_move 109 = .ok (.iload_n 1, 1) := by decide +kernel
theorem dX11_move_110 : decode cX11_move 110 = .ok (.iload_n 3, 1) := by decide +kernel
theorem dX11_move_111 : decode cX11_move 111 = .ok (.iconst 1, 1) := by decide +kernel
theorem dX11_move_112 : decode cX11_move 112 = .ok (.invokevirtual 347, 3) := by decide +kernel
theorem dX11_move_115 : decode cX11_move 115 = .ok (.aload_n 0, 1) := by decide +kernel
theorem dX11_move_116 : decode cX11_move 116 = .ok (.getfield 34, 3) := by decide +kernel
theorem dX11_move_119 : decode cX11_move 119 = .ok (.dup, 1) := by decide +kernel
theorem dX11_move_120 : decode cX11_move 120 = .ok (.getfield 167, 3) := by decide +kernel
theorem dX11_move_123 : decode cX11_move 123 = .ok (.iconst 1, 1) := by decide +kernel
theorem dX11_move_124 : decode cX11_move 124 = .ok (.iadd, 1) := by decide +kernel
theorem dX11_move_125 : decode cX11_move 125 = .ok (.putfield 167, 3) := by decide +kernel
theorem dX11_move_128 : decode cX11_move 128 = .ok (.aload_n 0, 1) := by decide +kernel
theorem dX11_move_129 : decode cX11_move 129 = .ok (.getfield 34, 3) := by decide +kernel
theorem dX11_move_132 : decode cX11_move 132 = .ok (.iload_n 1, 1) := by decide +kernel
theorem dX11_move_133 : decode cX11_move 133 = .ok (.iload_n 3, 1) := by decide +kernel
theorem dX11_move_134 : decode cX11_move 134 = .ok (.invokevirtual 267, 3) := by decide +kernel
theorem dX11_move_137 : decode cX11_move 137 = .ok (.ireturn, 1) := by decide +kernel
theorem dX11_close_0 : decode cX11_close 0 = .ok (.aload_n 0, 1) := by decide +kernel
theorem dX11_close_1 : decode cX11_close 1 = .ok (.getfield 34, 3) := by decide +kernel
theorem dX11_close_4 : decode cX11_close 4 = .ok (.getfield 161, 3) := by decide +kernel
theorem dX11_close_7 : decode cX11_close 7 = .ok (.bipush 60, 2) := by decide +kernel
theorem dX11_close_9 : decode cX11_close 9 = .ok (.if_icmp .lt 6, 3) := by decide +kernel
theorem dX11_close_12 : decode cX11_close 12 = .ok (.bipush (-2), 2) := by decide +kernel
theorem dX11_close_14 : decode cX11_close 14 = .ok (.ireturn, 1) := by decide +kernel
theorem dX11_close_15 : decode cX11_close 15 = .ok (.aload_n 0, 1) := by decide +kernel
theorem dX11_close_16 : decode cX11_close 16 = .ok (.getfield 66, 3) := by decide +kernel
theorem dX11_close_19 : decode cX11_close 19 = .ok (.aload_n 0, 1) := by decide +kernel
theorem dX11_close_20 : decode cX11_close 20 = .ok (.getfield 34, 3) := by decide +kernel
theorem dX11_close_23 : decode cX11_close 23 = .ok (.invokevirtual 335, 3) := by decide +kernel
theorem dX11_close_26 : decode cX11_close 26 = .ok (.aload_n 0, 1) := by decide +kernel
theorem dX11_close_27 : decode cX11_close 27 = .ok (.getfield 59, 3) := by decide +kernel
theorem dX11_close_30 : decode cX11_close 30 = .ok (.invokevirtual 351, 3) := by decide +kernel
theorem dX11_close_33 : decode cX11_close 33 = .ok (.istore_n 1, 1) := by decide +kernel
theorem dX11_close_34 : decode cX11_close 34 = .ok (.aload_n 0, 1) := by decide +kernel
theorem dX11_close_35 : decode cX11_close 35 = .ok (.getfield 43, 3) := by decide +kernel
theorem dX11_close_38 : decode cX11_close 38 = .ok (.invokevirtual 136, 3) := by decide +kernel
theorem dX11_close_41 : decode cX11_close 41 = .ok (.iload_n 1, 1) := by decide +kernel
theorem dX11_close_42 : decode cX11_close 42 = .ok (.ireturn, 1) := by decide +kernel
theorem dX11_program_0 : decode cX11_program 0 = .ok (.aload_n 0, 1) := by decide +kernel
theorem dX11_program_1 : decode cX11_program 1 = .ok (.iload_n 1, 1) := by decide +kernel
theorem dX11_program_2 : decode cX11_program 2 = .ok (.invokevirtual 181, 3) := by decide +kernel
theorem dX11_program_5 : decode cX11_program 5 = .ok (.aload_n 0, 1) := by decide +kernel
theorem dX11_program_6 : decode cX11_program 6 = .ok (.getfield 66, 3) := by decide +kernel
theorem dX11_program_9 : decode cX11_program 9 = .ok (.aload_n 0, 1) := by decide +kernel
theorem dX11_program_10 : decode cX11_program 10 = .ok (.getfield 34, 3) := by decide +kernel
theorem dX11_program_13 : decode cX11_program 13 = .ok (.invokevirtual 335, 3) := by decide +kernel
theorem dX11_program_16 : decode cX11_program 16 = .ok (.aload_n 0, 1) := by decide +kernel
theorem dX11_program_17 : decode cX11_program 17 = .ok (.getfield 52, 3) := by decide +kernel
theorem dX11_program_20 : decode cX11_program 20 = .ok (.iload_n 1, 1) := by decide +kernel
theorem dX11_program_21 : decode cX11_program 21 = .ok (.invokevirtual 301, 3) := by decide +kernel
theorem dX11_program_24 : decode cX11_program 24 = .ok (.aload_n 0, 1) := by decide +kernel
theorem dX11_program_25 : decode cX11_program 25 = .ok (.getfield 52, 3) := by decide +kernel
theorem dX11_program_28 : decode cX11_program 28 = .ok (.invokevirtual 354, 3) := by decide +kernel
theorem dX11_program_31 : decode cX11_program 31 = .ok (.istore_n 2, 1) := by decide +kernel
theorem dX11_program_32 : decode cX11_program 32 = .ok (.aload_n 0, 1) := by decide +kernel
theorem dX11_program_33 : decode cX11_program 33 = .ok (.getfield 43, 3) := by decide +kernel
theorem dX11_program_36 : decode cX11_program 36 = .ok (.invokevirtual 136, 3) := by decide +kernel
theorem dX11_program_39 : decode cX11_program 39 = .ok (.iload_n 2, 1) := by decide +kernel
theorem dX11_program_40 : decode cX11_program 40 = .ok (.ireturn, 1) := by decide +kernel
theorem dX11_setHoldover_0 : decode cX11_setHoldover 0 = .ok (.aload_n 0, 1) := by decide +kernel
theorem dX11_setHoldover_1 : decode cX11_setHoldover 1 = .ok (.iload_n 1, 1) := by decide +kernel
theorem dX11_setHoldover_2 : decode cX11_setHoldover 2 = .ok (.invokevirtual 181, 3) := by decide +kernel
theorem dX11_setHoldover_5 : decode cX11_setHoldover 5 = .ok (.iload_n 2, 1) := by decide +kernel
theorem dX11_setHoldover_6 : decode cX11_setHoldover 6 = .ok (.iconst 1, 1) := by decide +kernel
theorem dX11_setHoldover_7 : decode cX11_setHoldover 7 = .ok (.if_icmp .lt 9, 3) := by decide +kernel
theorem dX11_setHoldover_10 : decode cX11_setHoldover 10 = .ok (.iload_n 2, 1) := by decide +kernel
theorem dX11_setHoldover_11 : decode cX11_setHoldover 11 = .ok (.bipush 100, 2) := by decide +kernel
theorem dX11_setHoldover_13 : decode cX11_setHoldover 13 = .ok (.if_icmp .le 14, 3) := by decide +kernel
theorem dX11_setHoldover_16 : decode cX11_setHoldover 16 = .ok (.new 147, 3) := by decide +kernel
theorem dX11_setHoldover_19 : decode cX11_setHoldover 19 = .ok (.dup, 1) := by decide +kernel
theorem dX11_setHoldover_20 : decode cX11_setHoldover 20 = .ok (.ldc_w 357, 3) := by decide +kernel
theorem dX11_setHoldover_23 : decode cX11_setHoldover 23 = .ok (.invokespecial 151, 3) := by decide +kernel
theorem dX11_setHoldover_26 : decode cX11_setHoldover 26 = .ok (.athrow, 1) := by decide +kernel
theorem dX11_setHoldover_27 : decode cX11_setHoldover 27 = .ok (.aload_n 0, 1) := by decide +kernel
theorem dX11_setHoldover_28 : decode cX11_setHoldover 28 = .ok (.getfield 66, 3) := by decide +kernel
theorem dX11_setHoldover_31 : decode cX11_setHoldover 31 = .ok (.aload_n 0, 1) := by decide +kernel
theorem dX11_setHoldover_32 : decode cX11_setHoldover 32 = .ok (.getfield 34, 3) := by decide +kernel
theorem dX11_setHoldover_35 : decode cX11_setHoldover 35 = .ok (.invokevirtual 335, 3) := by decide +kernel
theorem dX11_setHoldover_38 : decode cX11_setHoldover 38 = .ok (.aload_n 0, 1) := by decide +kernel
theorem dX11_setHoldover_39 : decode cX11_setHoldover 39 = .ok (.getfield 34, 3) := by decide +kernel
theorem dX11_setHoldover_42 : decode cX11_setHoldover 42 = .ok (.getfield 188, 3) := by decide +kernel
theorem dX11_setHoldover_45 : decode cX11_setHoldover 45 = .ok (.iload_n 1, 1) := by decide +kernel
theorem dX11_setHoldover_46 : decode cX11_setHoldover 46 = .ok (.iaload, 1) := by decide +kernel
theorem dX11_setHoldover_47 : decode cX11_setHoldover 47 = .ok (.istore_n 3, 1) := by decide +kernel
theorem dX11_setHoldover_48 : decode cX11_setHoldover 48 = .ok (.aload_n 0, 1) := by decide +kernel
theorem dX11_setHoldover_49 : decode cX11_setHoldover 49 = .ok (.getfield 34, 3) := by decide +kernel
theorem dX11_setHoldover_52 : decode cX11_setHoldover 52 = .ok (.getfield 188, 3) := by decide +kernel
theorem dX11_setHoldover_55 : decode cX11_setHoldover 55 = .ok (.iload_n 1, 1) := by decide +kernel
theorem dX11_setHoldover_56 : decode cX11_setHoldover 56 = .ok (.iload_n 2, 1) := by decide +kernel
theorem dX11_setHoldover_57 : decode cX11_setHoldover 57 = .ok (.iastore, 1) := by decide +kernel
theorem dX11_setHoldover_58 : decode cX11_setHoldover 58 = .ok (.iload_n 3, 1) := by decide +kernel
theorem dX11_setHoldover_59 : decode cX11_setHoldover 59 = .ok (.ireturn, 1) := by decide +kernel
theorem dX11_setRent_0 : decode cX11_setRent 0 = .ok (.aload_n 0, 1) := by decide +kernel
theorem dX11_setRent_1 : decode cX11_setRent 1 = .ok (.iload_n 1, 1) := by decide +kernel
theorem dX11_setRent_2 : decode cX11_setRent 2 = .ok (.invokevirtual 203, 3) := by decide +kernel
theorem dX11_setRent_5 : decode cX11_setRent 5 = .ok (.iload_n 2, 1) := by decide +kernel
theorem dX11_setRent_6 : decode cX11_setRent 6 = .ok (.ifCond .lt 10, 3) := by decide +kernel
theorem dX11_setRent_9 : decode cX11_setRent 9 = .ok (.iload_n 2, 1) := by decide +kernel
theorem dX11_setRent_10 : decode cX11_setRent 10 = .ok (.sipush 9999, 3) := by decide +kernel
theorem dX11_setRent_13 : decode cX11_setRent 13 = .ok (.if_icmp .le 14, 3) := by decide +kernel
theorem dX11_setRent_16 : decode cX11_setRent 16 = .ok (.new 147, 3) := by decide +kernel
theorem dX11_setRent_19 : decode cX11_setRent 19 = .ok (.dup, 1) := by decide +kernel
theorem dX11_setRent_20 : decode cX11_setRent 20 = .ok (.ldc_w 359, 3) := by decide +kernel
theorem dX11_setRent_23 : decode cX11_setRent 23 = .ok (.invokespecial 151, 3) := by decide +kernel
theorem dX11_setRent_26 : decode cX11_setRent 26 = .ok (.athrow, 1) := by decide +kernel
theorem dX11_setRent_27 : decode cX11_setRent 27 = .ok (.aload_n 0, 1) := by decide +kernel
theorem dX11_setRent_28 : decode cX11_setRent 28 = .ok (.getfield 66, 3) := by decide +kernel
theorem dX11_setRent_31 : decode cX11_setRent 31 = .ok (.aload_n 0, 1) := by decide +kernel
theorem dX11_setRent_32 : decode cX11_setRent 32 = .ok (.getfield 34, 3) := by decide +kernel
theorem dX11_setRent_35 : decode cX11_setRent 35 = .ok (.invokevirtual 335, 3) := by decide +kernel
theorem dX11_setRent_38 : decode cX11_setRent 38 = .ok (.aload_n 0, 1) := by decide +kernel
theorem dX11_setRent_39 : decode cX11_setRent 39 = .ok (.getfield 34, 3) := by decide +kernel
theorem dX11_setRent_42 : decode cX11_setRent 42 = .ok (.getfield 215, 3) := by decide +kernel
theorem dX11_setRent_45 : decode cX11_setRent 45 = .ok (.iload_n 1, 1) := by decide +kernel
theorem dX11_setRent_46 : decode cX11_setRent 46 = .ok (.iaload, 1) := by decide +kernel
theorem dX11_setRent_47 : decode cX11_setRent 47 = .ok (.istore_n 3, 1) := by decide +kernel
theorem dX11_setRent_48 : decode cX11_setRent 48 = .ok (.aload_n 0, 1) := by decide +kernel
theorem dX11_setRent_49 : decode cX11_setRent 49 = .ok (.getfield 34, 3) := by decide +kernel
theorem dX11_setRent_52 : decode cX11_setRent 52 = .ok (.getfield 215, 3) := by decide +kernel
theorem dX11_setRent_55 : decode cX11_setRent 55 = .ok (.iload_n 1, 1) := by decide +kernel
theorem dX11_setRent_56 : decode cX11_setRent 56 = .ok (.iload_n 2, 1) := by decide +kernel
theorem dX11_setRent_57 : decode cX11_setRent 57 = .ok (.iastore, 1) := by decide +kernel
theorem dX11_setRent_58 : decode cX11_setRent 58 = .ok (.iload_n 3, 1) := by decide +kernel
theorem dX11_setRent_59 : decode cX11_setRent 59 = .ok (.ireturn, 1) := by decide +kernel
theorem dX11_setFee_0 : decode cX11_setFee 0 = .ok (.iload_n 1, 1) := by decide +kernel
theorem dX11_setFee_1 : decode cX11_setFee 1 = .ok (.ifCond .lt 10, 3) := by decide +kernel
theorem dX11_setFee_4 : decode cX11_setFee 4 = .ok (.iload_n 1, 1) := by decide +kernel
theorem dX11_setFee_5 : decode cX11_setFee 5 = .ok (.sipush 999, 3) := by decide +kernel
theorem dX11_setFee_8 : decode cX11_setFee 8 = .ok (.if_icmp .le 14, 3) := by decide +kernel
theorem dX11_setFee_11 : decode cX11_setFee 11 = .ok (.new 147, 3) := by decide +kernel
theorem dX11_setFee_14 : decode cX11_setFee 14 = .ok (.dup, 1) := by decide +kernel
theorem dX11_setFee_15 : decode cX11_setFee 15 = .ok (.ldc_w 360, 3) := by decide +kernel
theorem dX11_setFee_18 : decode cX11_setFee 18 = .ok (.invokespecial 151, 3) := by decide +kernel
theorem dX11_setFee_21 : decode cX11_setFee 21 = .ok (.athrow, 1) := by decide +kernel
theorem dX11_setFee_22 : decode cX11_setFee 22 = .ok (.aload_n 0, 1) := by decide +kernel
theorem dX11_setFee_23 : decode cX11_setFee 23 = .ok (.getfield 66, 3) := by decide +kernel
theorem dX11_setFee_26 : decode cX11_setFee 26 = .ok (.aload_n 0, 1) := by decide +kernel
theorem dX11_setFee_27 : decode cX11_setFee 27 = .ok (.getfield 34, 3) := by decide +kernel
theorem dX11_setFee_30 : decode cX11_setFee 30 = .ok (.invokevirtual 335, 3) := by decide +kernel
theorem dX11_setFee_33 : decode cX11_setFee 33 = .ok (.aload_n 0, 1) := by decide +kernel
theorem dX11_setFee_34 : decode cX11_setFee 34 = .ok (.getfield 34, 3) := by decide +kernel
theorem dX11_setFee_37 : decode cX11_setFee 37 = .ok (.getfield 164, 3) := by decide +kernel
theorem dX11_setFee_40 : decode cX11_setFee 40 = .ok (.istore_n 2, 1) := by decide +kernel
theorem dX11_setFee_41 : decode cX11_setFee 41 = .ok (.aload_n 0, 1) := by decide +kernel
theorem dX11_setFee_42 : decode cX11_setFee 42 = .ok (.getfield 34, 3) := by decide +kernel
theorem dX11_setFee_45 : decode cX11_setFee 45 = .ok (.iload_n 1, 1) := by decide +kernel
theorem dX11_setFee_46 : decode cX11_setFee 46 = .ok (.putfield 164, 3) := by decide +kernel
theorem dX11_setFee_49 : decode cX11_setFee 49 = .ok (.iload_n 2, 1) := by decide +kernel
theorem dX11_setFee_50 : decode cX11_setFee 50 = .ok (.ireturn, 1) := by decide +kernel
theorem dX11_undoCount_0 : decode cX11_undoCount 0 = .ok (.aload_n 0, 1) := by decide +kernel
theorem dX11_undoCount_1 : decode cX11_undoCount 1 = .ok (.getfield 66, 3) := by decide +kernel
theorem dX11_undoCount_4 : decode cX11_undoCount 4 = .ok (.getfield 384, 3) := by decide +kernel
theorem dX11_undoCount_7 : decode cX11_undoCount 7 = .ok (.ireturn, 1) := by decide +kernel
theorem dX11_undo_0 : decode cX11_undo 0 = .ok (.aload_n 0, 1) := by decide +kernel
theorem dX11_undo_1 : decode cX11_undo 1 = .ok (.getfield 66, 3) := by decide +kernel
theorem dX11_undo_4 : decode cX11_undo 4 = .ok (.getfield 384, 3) := by decide +kernel
theorem dX11_undo_7 : decode cX11_undo 7 = .ok (.ifCond .ne 5, 3) := by decide +kernel
theorem dX11_undo_10 : decode cX11_undo 10 = .ok (.iconst (-1), 1) := by decide +kernel
theorem dX11_undo_11 : decode cX11_undo 11 = .ok (.ireturn, 1) := by decide +kernel
theorem dX11_undo_12 : decode cX11_undo 12 = .ok (.aload_n 0, 1) := by decide +kernel
theorem dX11_undo_13 : decode cX11_undo 13 = .ok (.getfield 66, 3) := by decide +kernel
theorem dX11_undo_16 : decode cX11_undo 16 = .ok (.aload_n 0, 1) := by decide +kernel
theorem dX11_undo_17 : decode cX11_undo 17 = .ok (.getfield 34, 3) := by decide +kernel
theorem dX11_undo_20 : decode cX11_undo 20 = .ok (.invokevirtual 387, 3) := by decide +kernel
theorem dX11_undo_23 : decode cX11_undo 23 = .ok (.aload_n 0, 1) := by decide +kernel
theorem dX11_undo_24 : decode cX11_undo 24 = .ok (.getfield 43, 3) := by decide +kernel
theorem dX11_undo_27 : decode cX11_undo 27 = .ok (.invokevirtual 136, 3) := by decide +kernel
theorem dX11_undo_30 : decode cX11_undo 30 = .ok (.aload_n 0, 1) := by decide +kernel
theorem dX11_undo_31 : decode cX11_undo 31 = .ok (.getfield 66, 3) := by decide +kernel
theorem dX11_undo_34 : decode cX11_undo 34 = .ok (.getfield 384, 3) := by decide +kernel
theorem dX11_undo_37 : decode cX11_undo 37 = .ok (.ireturn, 1) := by decide +kernel
theorem dX11_saveSnapshot_0 : decode cX11_saveSnapshot 0 = .ok (.aload_n 0, 1) := by decide +kernel
theorem dX11_saveSnapshot_1 : decode cX11_saveSnapshot 1 = .ok (.getfield 66, 3) := by decide +kernel
theorem dX11_saveSnapshot_4 : decode cX11_saveSnapshot 4 = .ok (.getfield 390, 3) := by decide +kernel
theorem dX11_saveSnapshot_7 : decode cX11_saveSnapshot 7 = .ok (.aload_n 0, 1) := by decide +kernel
theorem dX11_saveSnapshot_8 : decode cX11_saveSnapshot 8 = .ok (.getfield 34, 3) := by decide +kernel
theorem dX11_saveSnapshot_11 : decode cX11_saveSnapshot 11 = .ok (.invokevirtual 130, 3) := by decide +kernel
theorem dX11_saveSnapshot_14 : decode cX11_saveSnapshot 14 = .ok (.aload_n 0, 1) := by decide +kernel
theorem dX11_saveSnapshot_15 : decode cX11_saveSnapshot 15 = .ok (.getfield 66, 3) := by decide +kernel
theorem dX11_saveSnapshot_18 : decode cX11_saveSnapshot 18 = .ok (.iconst 1, 1) := by decide +kernel
theorem dX11_saveSnapshot_19 : decode cX11_saveSnapshot 19 = .ok (.putfield 393, 3) := by decide +kernel
theorem dX11_saveSnapshot_22 : decode cX11_saveSnapshot 22 = .ok (.return_, 1) := by decide +kernel
theorem dX11_restoreSnapshot_0 : decode cX11_restoreSnapshot 0 = .ok (.aload_n 0, 1) := by decide +kernel
theorem dX11_restoreSnapshot_1 : decode cX11_restoreSnapshot 1 = .ok (.getfield 66, 3) := by decide +kernel
theorem dX11_restoreSnapshot_4 : decode cX11_restoreSnapshot 4 = .ok (.getfield 393, 3) := by decide +kernel
theorem dX11_restoreSnapshot_7 : decode cX11_restoreSnapshot 7 = .ok (.ifCond .ne 5, 3) := by decide +kernel
theorem dX11_restoreSnapshot_10 : decode cX11_restoreSnapshot 10 = .ok (.iconst 0, 1) := by decide +kernel
theorem dX11_restoreSnapshot_11 : decode cX11_restoreSnapshot 11 = .ok (.ireturn, 1) := by decide +kernel
theorem dX11_restoreSnapshot_12 : decode cX11_restoreSnapshot 12 = .ok (.aload_n 0, 1) := by decide +kernel
theorem dX11_restoreSnapshot_13 : decode cX11_restoreSnapshot 13 = .ok (.getfield 34, 3) := by decide +kernel
theorem dX11_restoreSnapshot_16 : decode cX11_restoreSnapshot 16 = .ok (.aload_n 0, 1) := by decide +kernel
theorem dX11_restoreSnapshot_17 : decode cX11_restoreSnapshot 17 = .ok (.getfield 66, 3) := by decide +kernel
theorem dX11_restoreSnapshot_20 : decode cX11_restoreSnapshot 20 = .ok (.getfield 390, 3) := by decide +kernel
theorem dX11_restoreSnapshot_23 : decode cX11_restoreSnapshot 23 = .ok (.invokevirtual 130, 3) := by decide +kernel
theorem dX11_restoreSnapshot_26 : decode cX11_restoreSnapshot 26 = .ok (.aload_n 0, 1) := by decide +kernel
theorem dX11_restoreSnapshot_27 : decode cX11_restoreSnapshot 27 = .ok (.getfield 66, 3) := by decide +kernel
theorem dX11_restoreSnapshot_30 : decode cX11_restoreSnapshot 30 = .ok (.iconst 0, 1) := by decide +kernel
theorem dX11_restoreSnapshot_31 : decode cX11_restoreSnapshot 31 = .ok (.putfield 384, 3) := by decide +kernel
theorem dX11_restoreSnapshot_34 : decode cX11_restoreSnapshot 34 = .ok (.aload_n 0, 1) := by decide +kernel
theorem dX11_restoreSnapshot_35 : decode cX11_restoreSnapshot 35 = .ok (.getfield 43, 3) := by decide +kernel
theorem dX11_restoreSnapshot_38 : decode cX11_restoreSnapshot 38 = .ok (.invokevirtual 136, 3) := by decide +kernel
theorem dX11_restoreSnapshot_41 : decode cX11_restoreSnapshot 41 = .ok (.iconst 1, 1) := by decide +kernel
theorem dX11_restoreSnapshot_42 : decode cX11_restoreSnapshot 42 = .ok (.ireturn, 1) := by decide +kernel
theorem dX11_checkHouse_0 : decode cX11_checkHouse 0 = .ok (.iload_n 1, 1) := by decide +kernel
theorem dX11_checkHouse_1 : decode cX11_checkHouse 1 = .ok (.ifCond .lt 14, 3) := by decide +kernel
theorem dX11_checkHouse_4 : decode cX11_checkHouse 4 = .ok (.iload_n 1, 1) := by decide +kernel
theorem dX11_checkHouse_5 : decode cX11_checkHouse 5 = .ok (.aload_n 0, 1) := by decide +kernel
theorem dX11_checkHouse_6 : decode cX11_checkHouse 6 = .ok (.getfield 27, 3) := by decide +kernel
theorem dX11_checkHouse_9 : decode cX11_checkHouse 9 = .ok (.getfield 155, 3) := by decide +kernel
theorem dX11_checkHouse_12 : decode cX11_checkHouse 12 = .ok (.if_icmp .lt 14, 3) := by decide +kernel
theorem dX11_checkHouse_15 : decode cX11_checkHouse 15 = .ok (.new 176, 3) := by decide +kernel
theorem dX11_checkHouse_18 : decode cX11_checkHouse 18 = .ok (.dup, 1) := by decide +kernel
theorem dX11_checkHouse_19 : decode cX11_checkHouse 19 = .ok (.ldc_w 397, 3) := by decide +kernel
theorem dX11_checkHouse_22 : decode cX11_checkHouse 22 = .ok (.invokespecial 180, 3) := by decide +kernel
theorem dX11_checkHouse_25 : decode cX11_checkHouse 25 = .ok (.athrow, 1) := by decide +kernel
theorem dX11_checkHouse_26 : decode cX11_checkHouse 26 = .ok (.return_, 1) := by decide +kernel
theorem dX11_checkScreen_0 : decode cX11_checkScreen 0 = .ok (.iload_n 1, 1) := by decide +kernel
theorem dX11_checkScreen_1 : decode cX11_checkScreen 1 = .ok (.ifCond .lt 14, 3) := by decide +kernel
theorem dX11_checkScreen_4 : decode cX11_checkScreen 4 = .ok (.iload_n 1, 1) := by decide +kernel
theorem dX11_checkScreen_5 : decode cX11_checkScreen 5 = .ok (.aload_n 0, 1) := by decide +kernel
theorem dX11_checkScreen_6 : decode cX11_checkScreen 6 = .ok (.getfield 27, 3) := by decide +kernel
theorem dX11_checkScreen_9 : decode cX11_checkScreen 9 = .ok (.getfield 139, 3) := by decide +kernel
theorem dX11_checkScreen_12 : decode cX11_checkScreen 12 = .ok (.if_icmp .lt 14, 3) := by decide +kernel
theorem dX11_checkScreen_15 : decode cX11_checkScreen 15 = .ok (.new 176, 3) := by decide +kernel
theorem dX11_checkScreen_18 : decode cX11_checkScreen 18 = .ok (.dup, 1) := by decide +kernel
theorem dX11_checkScreen_19 : decode cX11_checkScreen 19 = .ok (.ldc_w 399, 3) := by decide +kernel
theorem dX11_checkScreen_22 : decode cX11_checkScreen 22 = .ok (.invokespecial 180, 3) := by decide +kernel
theorem dX11_checkScreen_25 : decode cX11_checkScreen 25 = .ok (.athrow, 1) := by decide +kernel
theorem dX11_checkScreen_26 : decode cX11_checkScreen 26 = .ok (.return_, 1) := by decide +kernel
theorem dX11_checkFilm_0 : decode cX11_checkFilm 0 = .ok (.iload_n 1, 1) := by decide +kernel
theorem dX11_checkFilm_1 : decode cX11_checkFilm 1 = .ok (.ifCond .lt 14, 3) := by decide +kernel
theorem dX11_checkFilm_4 : decode cX11_checkFilm 4 = .ok (.iload_n 1, 1) := by decide +kernel
theorem dX11_checkFilm_5 : decode cX11_checkFilm 5 = .ok (.aload_n 0, 1) := by decide +kernel
theorem dX11_checkFilm_6 : decode cX11_checkFilm 6 = .ok (.getfield 27, 3) := by decide +kernel
theorem dX11_checkFilm_9 : decode cX11_checkFilm 9 = .ok (.getfield 158, 3) := by decide +kernel
theorem dX11_checkFilm_12 : decode cX11_checkFilm 12 = .ok (.if_icmp .lt 14, 3) := by decide +kernel
theorem dX11_checkFilm_15 : decode cX11_checkFilm 15 = .ok (.new 176, 3) := by decide +kernel
theorem dX11_checkFilm_18 : decode cX11_checkFilm 18 = .ok (.dup, 1) := by decide +kernel
theorem dX11_checkFilm_19 : decode cX11_checkFilm 19 = .ok (.ldc_w 401, 3) := by decide +kernel
theorem dX11_checkFilm_22 : decode cX11_checkFilm 22 = .ok (.invokespecial 180, 3) := by decide +kernel
theorem dX11_checkFilm_25 : decode cX11_checkFilm 25 = .ok (.athrow, 1) := by decide +kernel
theorem dX11_checkFilm_26 : decode cX11_checkFilm 26 = .ok (.return_, 1) := by decide +kernel
theorem dX11_checkPlace_0 : decode cX11_checkPlace 0 = .ok (.iload_n 1, 1) := by decide +kernel
theorem dX11_checkPlace_1 : decode cX11_checkPlace 1 = .ok (.iconst (-1), 1) := by decide +kernel
theorem dX11_checkPlace_2 : decode cX11_checkPlace 2 = .ok (.if_icmp .lt 14, 3) := by decide +kernel
theorem dX11_checkPlace_5 : decode cX11_checkPlace 5 = .ok (.iload_n 1, 1) := by decide +kernel
theorem dX11_checkPlace_6 : decode cX11_checkPlace 6 = .ok (.aload_n 0, 1) := by decide +kernel
theorem dX11_checkPlace_7 : decode cX11_checkPlace 7 = .ok (.getfield 27, 3) := by decide +kernel
theorem dX11_checkPlace_10 : decode cX11_checkPlace 10 = .ok (.getfield 155, 3) := by decide +kernel
theorem dX11_checkPlace_13 : decode cX11_checkPlace 13 = .ok (.if_icmp .lt 14, 3) := by decide +kernel
theorem dX11_checkPlace_16 : decode cX11_checkPlace 16 = .ok (.new 176, 3) := by decide +kernel
theorem dX11_checkPlace_19 : decode cX11_checkPlace 19 = .ok (.dup, 1) := by decide +kernel
theorem dX11_checkPlace_20 : decode cX11_checkPlace 20 = .ok (.ldc_w 293, 3) := by decide +kernel
theorem dX11_checkPlace_23 : decode cX11_checkPlace 23 = .ok (.invokespecial 180, 3) := by decide +kernel
theorem dX11_checkPlace_26 : decode cX11_checkPlace 26 = .ok (.athrow, 1) := by decide +kernel
theorem dX11_checkPlace_27 : decode cX11_checkPlace 27 = .ok (.return_, 1) := by decide +kernel
theorem dX11_checkDay_0 : decode cX11_checkDay 0 = .ok (.iload_n 1, 1) := by decide +kernel
theorem dX11_checkDay_1 : decode cX11_checkDay 1 = .ok (.ifCond .lt 9, 3) := by decide +kernel
theorem dX11_checkDay_4 : decode cX11_checkDay 4 = .ok (.iload_n 1, 1) := by decide +kernel
theorem dX11_checkDay_5 : decode cX11_checkDay 5 = .ok (.bipush 7, 2) := by decide +kernel
theorem dX11_checkDay_7 : decode cX11_checkDay 7 = .ok (.if_icmp .lt 14, 3) := by decide +kernel
theorem dX11_checkDay_10 : decode cX11_checkDay 10 = .ok (.new 147, 3) := by decide +kernel
theorem dX11_checkDay_13 : decode cX11_checkDay 13 = .ok (.dup, 1) := by decide +kernel
theorem dX11_checkDay_14 : decode cX11_checkDay 14 = .ok (.ldc_w 403, 3) := by decide +kernel
theorem dX11_checkDay_17 : decode cX11_checkDay 17 = .ok (.invokespecial 151, 3) := by decide +kernel
theorem dX11_checkDay_20 : decode cX11_checkDay 20 = .ok (.athrow, 1) := by decide +kernel
theorem dX11_checkDay_21 : decode cX11_checkDay 21 = .ok (.return_, 1) := by decide +kernel
theorem dX11_copyRow_0 : decode cX11_copyRow 0 = .ok (.aload_n 0, 1) := by decide +kernel
theorem dX11_copyRow_1 : decode cX11_copyRow 1 = .ok (.iconst 0, 1) := by decide +kernel
theorem dX11_copyRow_2 : decode cX11_copyRow 2 = .ok (.aload_n 1, 1) := by decide +kernel
theorem dX11_copyRow_3 : decode cX11_copyRow 3 = .ok (.iconst 0, 1) := by decide +kernel
theorem dX11_copyRow_4 : decode cX11_copyRow 4 = .ok (.aload_n 0, 1) := by decide +kernel
theorem dX11_copyRow_5 : decode cX11_copyRow 5 = .ok (.arraylength, 1) := by decide +kernel
theorem dX11_copyRow_6 : decode cX11_copyRow 6 = .ok (.aload_n 1, 1) := by decide +kernel
theorem dX11_copyRow_7 : decode cX11_copyRow 7 = .ok (.arraylength, 1) := by decide +kernel
theorem dX11_copyRow_8 : decode cX11_copyRow 8 = .ok (.invokestatic 405, 3) := by decide +kernel
theorem dX11_copyRow_11 : decode cX11_copyRow 11 = .ok (.invokestatic 410, 3) := by decide +kernel
theorem dX11_copyRow_14 : decode cX11_copyRow 14 = .ok (.return_, 1) := by decide +kernel
