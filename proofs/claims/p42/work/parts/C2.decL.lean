/-! the law's helpers: each instruction -/
theorem dL_most_0 : decode cL_most 0 = .ok (.iload_n 0, 1) := by decide +kernel
theorem dL_most_1 : decode cL_most 1 = .ok (.ldc 7, 2) := by decide +kernel
theorem dL_most_3 : decode cL_most 3 = .ok (.iand, 1) := by decide +kernel
theorem dL_most_4 : decode cL_most 4 = .ok (.iload_n 1, 1) := by decide +kernel
theorem dL_most_5 : decode cL_most 5 = .ok (.irem, 1) := by decide +kernel
theorem dL_most_6 : decode cL_most 6 = .ok (.ireturn, 1) := by decide +kernel
theorem dL_cell_0 : decode cL_cell 0 = .ok (.iload_n 1, 1) := by decide +kernel
theorem dL_cell_1 : decode cL_cell 1 = .ok (.aload_n 0, 1) := by decide +kernel
theorem dL_cell_2 : decode cL_cell 2 = .ok (.arraylength, 1) := by decide +kernel
theorem dL_cell_3 : decode cL_cell 3 = .ok (.if_icmp .ge 9, 3) := by decide +kernel
theorem dL_cell_6 : decode cL_cell 6 = .ok (.aload_n 0, 1) := by decide +kernel
theorem dL_cell_7 : decode cL_cell 7 = .ok (.iload_n 1, 1) := by decide +kernel
theorem dL_cell_8 : decode cL_cell 8 = .ok (.iaload, 1) := by decide +kernel
theorem dL_cell_9 : decode cL_cell 9 = .ok (.goto 7, 3) := by decide +kernel
theorem dL_cell_12 : decode cL_cell 12 = .ok (.bipush 37, 2) := by decide +kernel
theorem dL_cell_14 : decode cL_cell 14 = .ok (.iload_n 1, 1) := by decide +kernel
theorem dL_cell_15 : decode cL_cell 15 = .ok (.imul, 1) := by decide +kernel
theorem dL_cell_16 : decode cL_cell 16 = .ok (.ireturn, 1) := by decide +kernel
theorem dL_add_0 : decode cL_add 0 = .ok (.aload_n 1, 1) := by decide +kernel
theorem dL_add_1 : decode cL_add 1 = .ok (.aload_n 1, 1) := by decide +kernel
theorem dL_add_2 : decode cL_add 2 = .ok (.iconst 5, 1) := by decide +kernel
theorem dL_add_3 : decode cL_add 3 = .ok (.iaload, 1) := by decide +kernel
theorem dL_add_4 : decode cL_add 4 = .ok (.bipush 20, 2) := by decide +kernel
theorem dL_add_6 : decode cL_add 6 = .ok (.irem, 1) := by decide +kernel
theorem dL_add_7 : decode cL_add 7 = .ok (.iconst 4, 1) := by decide +kernel
theorem dL_add_8 : decode cL_add 8 = .ok (.idiv, 1) := by decide +kernel
theorem dL_add_9 : decode cL_add 9 = .ok (.dup2, 1) := by decide +kernel
theorem dL_add_10 : decode cL_add 10 = .ok (.iaload, 1) := by decide +kernel
theorem dL_add_11 : decode cL_add 11 = .ok (.iload_n 2, 1) := by decide +kernel
theorem dL_add_12 : decode cL_add 12 = .ok (.bipush 24, 2) := by decide +kernel
theorem dL_add_14 : decode cL_add 14 = .ok (.bipush 8, 2) := by decide +kernel
theorem dL_add_16 : decode cL_add 16 = .ok (.aload_n 1, 1) := by decide +kernel
theorem dL_add_17 : decode cL_add 17 = .ok (.iconst 5, 1) := by decide +kernel
theorem dL_add_18 : decode cL_add 18 = .ok (.iaload, 1) := by decide +kernel
theorem dL_add_19 : decode cL_add 19 = .ok (.iconst 4, 1) := by decide +kernel
theorem dL_add_20 : decode cL_add 20 = .ok (.irem, 1) := by decide +kernel
theorem dL_add_21 : decode cL_add 21 = .ok (.imul, 1) := by decide +kernel
theorem dL_add_22 : decode cL_add 22 = .ok (.isub, 1) := by decide +kernel
theorem dL_add_23 : decode cL_add 23 = .ok (.ishl, 1) := by decide +kernel
theorem dL_add_24 : decode cL_add 24 = .ok (.ior, 1) := by decide +kernel
theorem dL_add_25 : decode cL_add 25 = .ok (.iastore, 1) := by decide +kernel
theorem dL_add_26 : decode cL_add 26 = .ok (.aload_n 1, 1) := by decide +kernel
theorem dL_add_27 : decode cL_add 27 = .ok (.iconst 5, 1) := by decide +kernel
theorem dL_add_28 : decode cL_add 28 = .ok (.dup2, 1) := by decide +kernel
theorem dL_add_29 : decode cL_add 29 = .ok (.iaload, 1) := by decide +kernel
theorem dL_add_30 : decode cL_add 30 = .ok (.iconst 1, 1) := by decide +kernel
theorem dL_add_31 : decode cL_add 31 = .ok (.iadd, 1) := by decide +kernel
theorem dL_add_32 : decode cL_add 32 = .ok (.iastore, 1) := by decide +kernel
theorem dL_add_33 : decode cL_add 33 = .ok (.aload_n 1, 1) := by decide +kernel
theorem dL_add_34 : decode cL_add 34 = .ok (.iconst 5, 1) := by decide +kernel
theorem dL_add_35 : decode cL_add 35 = .ok (.iaload, 1) := by decide +kernel
theorem dL_add_36 : decode cL_add 36 = .ok (.bipush 20, 2) := by decide +kernel
theorem dL_add_38 : decode cL_add 38 = .ok (.irem, 1) := by decide +kernel
theorem dL_add_39 : decode cL_add 39 = .ok (.ifCond .eq 4, 3) := by decide +kernel
theorem dL_add_42 : decode cL_add 42 = .ok (.return_, 1) := by decide +kernel
theorem dL_add_43 : decode cL_add 43 = .ok (.aload_n 0, 1) := by decide +kernel
theorem dL_add_44 : decode cL_add 44 = .ok (.aload_n 1, 1) := by decide +kernel
theorem dL_add_45 : decode cL_add 45 = .ok (.iconst 0, 1) := by decide +kernel
theorem dL_add_46 : decode cL_add 46 = .ok (.iaload, 1) := by decide +kernel
theorem dL_add_47 : decode cL_add 47 = .ok (.aload_n 1, 1) := by decide +kernel
theorem dL_add_48 : decode cL_add 48 = .ok (.iconst 1, 1) := by decide +kernel
theorem dL_add_49 : decode cL_add 49 = .ok (.iaload, 1) := by decide +kernel
theorem dL_add_50 : decode cL_add 50 = .ok (.aload_n 1, 1) := by decide +kernel
theorem dL_add_51 : decode cL_add 51 = .ok (.iconst 2, 1) := by decide +kernel
theorem dL_add_52 : decode cL_add 52 = .ok (.iaload, 1) := by decide +kernel
theorem dL_add_53 : decode cL_add 53 = .ok (.aload_n 1, 1) := by decide +kernel
theorem dL_add_54 : decode cL_add 54 = .ok (.iconst 3, 1) := by decide +kernel
theorem dL_add_55 : decode cL_add 55 = .ok (.iaload, 1) := by decide +kernel
theorem dL_add_56 : decode cL_add 56 = .ok (.aload_n 1, 1) := by decide +kernel
theorem dL_add_57 : decode cL_add 57 = .ok (.iconst 4, 1) := by decide +kernel
theorem dL_add_58 : decode cL_add 58 = .ok (.iaload, 1) := by decide +kernel
theorem dL_add_59 : decode cL_add 59 = .ok (.invokevirtual 8, 3) := by decide +kernel
theorem dL_add_62 : decode cL_add 62 = .ok (.pop, 1) := by decide +kernel
theorem dL_add_63 : decode cL_add 63 = .ok (.iconst 0, 1) := by decide +kernel
theorem dL_add_64 : decode cL_add 64 = .ok (.istore_n 3, 1) := by decide +kernel
theorem dL_add_65 : decode cL_add 65 = .ok (.iload_n 3, 1) := by decide +kernel
theorem dL_add_66 : decode cL_add 66 = .ok (.iconst 5, 1) := by decide +kernel
theorem dL_add_67 : decode cL_add 67 = .ok (.if_icmp .ge 13, 3) := by decide +kernel
theorem dL_add_70 : decode cL_add 70 = .ok (.aload_n 1, 1) := by decide +kernel
theorem dL_add_71 : decode cL_add 71 = .ok (.iload_n 3, 1) := by decide +kernel
theorem dL_add_72 : decode cL_add 72 = .ok (.iconst 0, 1) := by decide +kernel
theorem dL_add_73 : decode cL_add 73 = .ok (.iastore, 1) := by decide +kernel
theorem dL_add_74 : decode cL_add 74 = .ok (.iinc 3 1, 3) := by decide +kernel
theorem dL_add_77 : decode cL_add 77 = .ok (.goto (-12), 3) := by decide +kernel
theorem dL_add_80 : decode cL_add 80 = .ok (.return_, 1) := by decide +kernel
theorem dL_number_0 : decode cL_number 0 = .ok (.iconst 1, 1) := by decide +kernel
theorem dL_number_1 : decode cL_number 1 = .ok (.istore_n 3, 1) := by decide +kernel
theorem dL_number_2 : decode cL_number 2 = .ok (.iload_n 3, 1) := by decide +kernel
theorem dL_number_3 : decode cL_number 3 = .ok (.iload_n 2, 1) := by decide +kernel
theorem dL_number_4 : decode cL_number 4 = .ok (.bipush 10, 2) := by decide +kernel
theorem dL_number_6 : decode cL_number 6 = .ok (.idiv, 1) := by decide +kernel
theorem dL_number_7 : decode cL_number 7 = .ok (.if_icmp .gt 11, 3) := by decide +kernel
theorem dL_number_10 : decode cL_number 10 = .ok (.iload_n 3, 1) := by decide +kernel
theorem dL_number_11 : decode cL_number 11 = .ok (.bipush 10, 2) := by decide +kernel
theorem dL_number_13 : decode cL_number 13 = .ok (.imul, 1) := by decide +kernel
theorem dL_number_14 : decode cL_number 14 = .ok (.istore_n 3, 1) := by decide +kernel
theorem dL_number_15 : decode cL_number 15 = .ok (.goto (-13), 3) := by decide +kernel
theorem dL_number_18 : decode cL_number 18 = .ok (.iload_n 3, 1) := by decide +kernel
theorem dL_number_19 : decode cL_number 19 = .ok (.ifCond .le 25, 3) := by decide +kernel
theorem dL_number_22 : decode cL_number 22 = .ok (.aload_n 0, 1) := by decide +kernel
theorem dL_number_23 : decode cL_number 23 = .ok (.aload_n 1, 1) := by decide +kernel
theorem dL_number_24 : decode cL_number 24 = .ok (.bipush 48, 2) := by decide +kernel
theorem dL_number_26 : decode cL_number 26 = .ok (.iload_n 2, 1) := by decide +kernel
theorem dL_number_27 : decode cL_number 27 = .ok (.iload_n 3, 1) := by decide +kernel
theorem dL_number_28 : decode cL_number 28 = .ok (.idiv, 1) := by decide +kernel
theorem dL_number_29 : decode cL_number 29 = .ok (.bipush 10, 2) := by decide +kernel
theorem dL_number_31 : decode cL_number 31 = .ok (.irem, 1) := by decide +kernel
theorem dL_number_32 : decode cL_number 32 = .ok (.iadd, 1) := by decide +kernel
theorem dL_number_33 : decode cL_number 33 = .ok (.invokestatic 14, 3) := by decide +kernel
theorem dL_number_36 : decode cL_number 36 = .ok (.iload_n 3, 1) := by decide +kernel
theorem dL_number_37 : decode cL_number 37 = .ok (.bipush 10, 2) := by decide +kernel
theorem dL_number_39 : decode cL_number 39 = .ok (.idiv, 1) := by decide +kernel
theorem dL_number_40 : decode cL_number 40 = .ok (.istore_n 3, 1) := by decide +kernel
theorem dL_number_41 : decode cL_number 41 = .ok (.goto (-23), 3) := by decide +kernel
theorem dL_number_44 : decode cL_number 44 = .ok (.return_, 1) := by decide +kernel
theorem dL_end_0 : decode cL_end 0 = .ok (.aload_n 1, 1) := by decide +kernel
theorem dL_end_1 : decode cL_end 1 = .ok (.iconst 5, 1) := by decide +kernel
theorem dL_end_2 : decode cL_end 2 = .ok (.iaload, 1) := by decide +kernel
theorem dL_end_3 : decode cL_end 3 = .ok (.istore_n 2, 1) := by decide +kernel
theorem dL_end_4 : decode cL_end 4 = .ok (.aload_n 1, 1) := by decide +kernel
theorem dL_end_5 : decode cL_end 5 = .ok (.iconst 5, 1) := by decide +kernel
theorem dL_end_6 : decode cL_end 6 = .ok (.iaload, 1) := by decide +kernel
theorem dL_end_7 : decode cL_end 7 = .ok (.bipush 20, 2) := by decide +kernel
theorem dL_end_9 : decode cL_end 9 = .ok (.irem, 1) := by decide +kernel
theorem dL_end_10 : decode cL_end 10 = .ok (.ifCond .eq 13, 3) := by decide +kernel
theorem dL_end_13 : decode cL_end 13 = .ok (.aload_n 0, 1) := by decide +kernel
theorem dL_end_14 : decode cL_end 14 = .ok (.aload_n 1, 1) := by decide +kernel
theorem dL_end_15 : decode cL_end 15 = .ok (.bipush 32, 2) := by decide +kernel
theorem dL_end_17 : decode cL_end 17 = .ok (.invokestatic 14, 3) := by decide +kernel
theorem dL_end_20 : decode cL_end 20 = .ok (.goto (-16), 3) := by decide +kernel
theorem dL_end_23 : decode cL_end 23 = .ok (.aload_n 1, 1) := by decide +kernel
theorem dL_end_24 : decode cL_end 24 = .ok (.iconst 5, 1) := by decide +kernel
theorem dL_end_25 : decode cL_end 25 = .ok (.iconst 0, 1) := by decide +kernel
theorem dL_end_26 : decode cL_end 26 = .ok (.iastore, 1) := by decide +kernel
theorem dL_end_27 : decode cL_end 27 = .ok (.iload_n 2, 1) := by decide +kernel
theorem dL_end_28 : decode cL_end 28 = .ok (.ireturn, 1) := by decide +kernel
theorem dL_drawn_0 : decode cL_drawn 0 = .ok (.new 20, 3) := by decide +kernel
theorem dL_drawn_3 : decode cL_drawn 3 = .ok (.dup, 1) := by decide +kernel
theorem dL_drawn_4 : decode cL_drawn 4 = .ok (.invokespecial 22, 3) := by decide +kernel
theorem dL_drawn_7 : decode cL_drawn 7 = .ok (.astore_n 2, 1) := by decide +kernel
theorem dL_drawn_8 : decode cL_drawn 8 = .ok (.aload_n 0, 1) := by decide +kernel
theorem dL_drawn_9 : decode cL_drawn 9 = .ok (.iload_n 1, 1) := by decide +kernel
theorem dL_drawn_10 : decode cL_drawn 10 = .ok (.invokestatic 23, 3) := by decide +kernel
theorem dL_drawn_13 : decode cL_drawn 13 = .ok (.istore_n 3, 1) := by decide +kernel
theorem dL_drawn_14 : decode cL_drawn 14 = .ok (.aload_n 2, 1) := by decide +kernel
theorem dL_drawn_15 : decode cL_drawn 15 = .ok (.iconst 1, 1) := by decide +kernel
theorem dL_drawn_16 : decode cL_drawn 16 = .ok (.iload_n 3, 1) := by decide +kernel
theorem dL_drawn_17 : decode cL_drawn 17 = .ok (.iconst 3, 1) := by decide +kernel
theorem dL_drawn_18 : decode cL_drawn 18 = .ok (.invokestatic 27, 3) := by decide +kernel
theorem dL_drawn_21 : decode cL_drawn 21 = .ok (.iadd, 1) := by decide +kernel
theorem dL_drawn_22 : decode cL_drawn 22 = .ok (.putfield 31, 3) := by decide +kernel
theorem dL_drawn_25 : decode cL_drawn 25 = .ok (.iconst 0, 1) := by decide +kernel
theorem dL_drawn_26 : decode cL_drawn 26 = .ok (.istore 4, 2) := by decide +kernel
theorem dL_drawn_28 : decode cL_drawn 28 = .ok (.iload 4, 2) := by decide +kernel
theorem dL_drawn_30 : decode cL_drawn 30 = .ok (.aload_n 2, 1) := by decide +kernel
theorem dL_drawn_31 : decode cL_drawn 31 = .ok (.getfield 31, 3) := by decide +kernel
theorem dL_drawn_34 : decode cL_drawn 34 = .ok (.if_icmp .ge 55, 3) := by decide +kernel
theorem dL_drawn_37 : decode cL_drawn 37 = .ok (.aload_n 2, 1) := by decide +kernel
theorem dL_drawn_38 : decode cL_drawn 38 = .ok (.getfield 35, 3) := by decide +kernel
theorem dL_drawn_41 : decode cL_drawn 41 = .ok (.iload 4, 2) := by decide +kernel
theorem dL_drawn_43 : decode cL_drawn 43 = .ok (.iconst 2, 1) := by decide +kernel
theorem dL_drawn_44 : decode cL_drawn 44 = .ok (.newarray .int, 2) := by decide +kernel
theorem dL_drawn_46 : decode cL_drawn 46 = .ok (.dup, 1) := by decide +kernel
theorem dL_drawn_47 : decode cL_drawn 47 = .ok (.iconst 0, 1) := by decide +kernel
theorem dL_drawn_48 : decode cL_drawn 48 = .ok (.iconst 1, 1) := by decide +kernel
theorem dL_drawn_49 : decode cL_drawn 49 = .ok (.iload_n 3, 1) := by decide +kernel
theorem dL_drawn_50 : decode cL_drawn 50 = .ok (.iconst 2, 1) := by decide +kernel
theorem dL_drawn_51 : decode cL_drawn 51 = .ok (.iconst 3, 1) := by decide +kernel
theorem dL_drawn_52 : decode cL_drawn 52 = .ok (.iload 4, 2) := by decide +kernel
theorem dL_drawn_54 : decode cL_drawn 54 = .ok (.imul, 1) := by decide +kernel
theorem dL_drawn_55 : decode cL_drawn 55 = .ok (.iadd, 1) := by decide +kernel
theorem dL_drawn_56 : decode cL_drawn 56 = .ok (.ishr, 1) := by decide +kernel
theorem dL_drawn_57 : decode cL_drawn 57 = .ok (.bipush 20, 2) := by decide +kernel
theorem dL_drawn_59 : decode cL_drawn 59 = .ok (.invokestatic 27, 3) := by decide +kernel
theorem dL_drawn_62 : decode cL_drawn 62 = .ok (.iadd, 1) := by decide +kernel
theorem dL_drawn_63 : decode cL_drawn 63 = .ok (.iastore, 1) := by decide +kernel
theorem dL_drawn_64 : decode cL_drawn 64 = .ok (.dup, 1) := by decide +kernel
theorem dL_drawn_65 : decode cL_drawn 65 = .ok (.iconst 1, 1) := by decide +kernel
theorem dL_drawn_66 : decode cL_drawn 66 = .ok (.iconst 1, 1) := by decide +kernel
theorem dL_drawn_67 : decode cL_drawn 67 = .ok (.iload_n 3, 1) := by decide +kernel
theorem dL_drawn_68 : decode cL_drawn 68 = .ok (.iconst 4, 1) := by decide +kernel
theorem dL_drawn_69 : decode cL_drawn 69 = .ok (.iconst 2, 1) := by decide +kernel
theorem dL_drawn_70 : decode cL_drawn 70 = .ok (.iload 4, 2) := by decide +kernel
theorem dL_drawn_72 : decode cL_drawn 72 = .ok (.imul, 1) := by decide +kernel
theorem dL_drawn_73 : decode cL_drawn 73 = .ok (.iadd, 1) := by decide +kernel
theorem dL_drawn_74 : decode cL_drawn 74 = .ok (.ishr, 1) := by decide +kernel
theorem dL_drawn_75 : decode cL_drawn 75 = .ok (.bipush 100, 2) := by decide +kernel
theorem dL_drawn_77 : decode cL_drawn 77 = .ok (.invokestatic 27, 3) := by decide +kernel
theorem dL_drawn_80 : decode cL_drawn 80 = .ok (.iadd, 1) := by decide +kernel
theorem dL_drawn_81 : decode cL_drawn 81 = .ok (.iastore, 1) := by decide +kernel
theorem dL_drawn_82 : decode cL_drawn 82 = .ok (.aastore, 1) := by decide +kernel
theorem dL_drawn_83 : decode cL_drawn 83 = .ok (.iinc 4 1, 3) := by decide +kernel
theorem dL_drawn_86 : decode cL_drawn 86 = .ok (.goto (-58), 3) := by decide +kernel
theorem dL_drawn_89 : decode cL_drawn 89 = .ok (.aload_n 2, 1) := by decide +kernel
theorem dL_drawn_90 : decode cL_drawn 90 = .ok (.iconst 1, 1) := by decide +kernel
theorem dL_drawn_91 : decode cL_drawn 91 = .ok (.iload_n 3, 1) := by decide +kernel
theorem dL_drawn_92 : decode cL_drawn 92 = .ok (.bipush 9, 2) := by decide +kernel
theorem dL_drawn_94 : decode cL_drawn 94 = .ok (.ishr, 1) := by decide +kernel
theorem dL_drawn_95 : decode cL_drawn 95 = .ok (.iconst 4, 1) := by decide +kernel
theorem dL_drawn_96 : decode cL_drawn 96 = .ok (.invokestatic 27, 3) := by decide +kernel
theorem dL_drawn_99 : decode cL_drawn 99 = .ok (.iadd, 1) := by decide +kernel
theorem dL_drawn_100 : decode cL_drawn 100 = .ok (.putfield 39, 3) := by decide +kernel
theorem dL_drawn_103 : decode cL_drawn 103 = .ok (.iconst 0, 1) := by decide +kernel
theorem dL_drawn_104 : decode cL_drawn 104 = .ok (.istore 4, 2) := by decide +kernel
theorem dL_drawn_106 : decode cL_drawn 106 = .ok (.iload 4, 2) := by decide +kernel
theorem dL_drawn_108 : decode cL_drawn 108 = .ok (.aload_n 2, 1) := by decide +kernel
theorem dL_drawn_109 : decode cL_drawn 109 = .ok (.getfield 39, 3) := by decide +kernel
theorem dL_drawn_112 : decode cL_drawn 112 = .ok (.if_icmp .ge 232, 3) := by decide +kernel
theorem dL_drawn_115 : decode cL_drawn 115 = .ok (.aload_n 0, 1) := by decide +kernel
theorem dL_drawn_116 : decode cL_drawn 116 = .ok (.iload_n 1, 1) := by decide +kernel
theorem dL_drawn_117 : decode cL_drawn 117 = .ok (.iconst 1, 1) := by decide +kernel
theorem dL_drawn_118 : decode cL_drawn 118 = .ok (.iadd, 1) := by decide +kernel
theorem dL_drawn_119 : decode cL_drawn 119 = .ok (.iload 4, 2) := by decide +kernel
theorem dL_drawn_121 : decode cL_drawn 121 = .ok (.iadd, 1) := by decide +kernel
theorem dL_drawn_122 : decode cL_drawn 122 = .ok (.invokestatic 23, 3) := by decide +kernel
theorem dL_drawn_125 : decode cL_drawn 125 = .ok (.istore 5, 2) := by decide +kernel
theorem dL_drawn_127 : decode cL_drawn 127 = .ok (.iconst 1, 1) := by decide +kernel
theorem dL_drawn_128 : decode cL_drawn 128 = .ok (.iload 5, 2) := by decide +kernel
theorem dL_drawn_130 : decode cL_drawn 130 = .ok (.iconst 3, 1) := by decide +kernel
theorem dL_drawn_131 : decode cL_drawn 131 = .ok (.ishr, 1) := by decide +kernel
theorem dL_drawn_132 : decode cL_drawn 132 = .ok (.iconst 4, 1) := by decide +kernel
theorem dL_drawn_133 : decode cL_drawn 133 = .ok (.invokestatic 27, 3) := by decide +kernel
theorem dL_drawn_136 : decode cL_drawn 136 = .ok (.iadd, 1) := by decide +kernel
theorem dL_drawn_137 : decode cL_drawn 137 = .ok (.istore 6, 2) := by decide +kernel
theorem dL_drawn_139 : decode cL_drawn 139 = .ok (.aload_n 2, 1) := by decide +kernel
theorem dL_drawn_140 : decode cL_drawn 140 = .ok (.getfield 42, 3) := by decide +kernel
theorem dL_drawn_143 : decode cL_drawn 143 = .ok (.iload 4, 2) := by decide +kernel
theorem dL_drawn_145 : decode cL_drawn 145 = .ok (.bipush 10, 2) := by decide +kernel
theorem dL_drawn_147 : decode cL_drawn 147 = .ok (.newarray .int, 2) := by decide +kernel
theorem dL_drawn_149 : decode cL_drawn 149 = .ok (.dup, 1) := by decide +kernel
theorem dL_drawn_150 : decode cL_drawn 150 = .ok (.iconst 0, 1) := by decide +kernel
theorem dL_drawn_151 : decode cL_drawn 151 = .ok (.iload 5, 2) := by decide +kernel
theorem dL_drawn_153 : decode cL_drawn 153 = .ok (.iload 5, 2) := by decide +kernel
theorem dL_drawn_155 : decode cL_drawn 155 = .ok (.iconst 2, 1) := by decide +kernel
theorem dL_drawn_156 : decode cL_drawn 156 = .ok (.ishr, 1) := by decide +kernel
theorem dL_drawn_157 : decode cL_drawn 157 = .ok (.iconst 2, 1) := by decide +kernel
theorem dL_drawn_158 : decode cL_drawn 158 = .ok (.invokestatic 27, 3) := by decide +kernel
theorem dL_drawn_161 : decode cL_drawn 161 = .ok (.ifCond .ne 8, 3) := by decide +kernel
theorem dL_drawn_164 : decode cL_drawn 164 = .ok (.bipush 60, 2) := by decide +kernel
theorem dL_drawn_166 : decode cL_drawn 166 = .ok (.goto 6, 3) := by decide +kernel
theorem dL_drawn_169 : decode cL_drawn 169 = .ok (.sipush 400, 3) := by decide +kernel
theorem dL_drawn_172 : decode cL_drawn 172 = .ok (.invokestatic 27, 3) := by decide +kernel
theorem dL_drawn_175 : decode cL_drawn 175 = .ok (.iastore, 1) := by decide +kernel
theorem dL_drawn_176 : decode cL_drawn 176 = .ok (.dup, 1) := by decide +kernel
theorem dL_drawn_177 : decode cL_drawn 177 = .ok (.iconst 1, 1) := by decide +kernel
theorem dL_drawn_178 : decode cL_drawn 178 = .ok (.iload 5, 2) := by decide +kernel
theorem dL_drawn_180 : decode cL_drawn 180 = .ok (.iconst 5, 1) := by decide +kernel
theorem dL_drawn_181 : decode cL_drawn 181 = .ok (.ishr, 1) := by decide +kernel
theorem dL_drawn_182 : decode cL_drawn 182 = .ok (.bipush 101, 2) := by decide +kernel
theorem dL_drawn_184 : decode cL_drawn 184 = .ok (.invokestatic 27, 3) := by decide +kernel
theorem dL_drawn_187 : decode cL_drawn 187 = .ok (.iastore, 1) := by decide +kernel
theorem dL_drawn_188 : decode cL_drawn 188 = .ok (.dup, 1) := by decide +kernel
theorem dL_drawn_189 : decode cL_drawn 189 = .ok (.iconst 2, 1) := by decide +kernel
theorem dL_drawn_190 : decode cL_drawn 190 = .ok (.iload 5, 2) := by decide +kernel
theorem dL_drawn_192 : decode cL_drawn 192 = .ok (.bipush 7, 2) := by decide +kernel
theorem dL_drawn_194 : decode cL_drawn 194 = .ok (.ishr, 1) := by decide +kernel
theorem dL_drawn_195 : decode cL_drawn 195 = .ok (.iload 5, 2) := by decide +kernel
theorem dL_drawn_197 : decode cL_drawn 197 = .ok (.bipush 8, 2) := by decide +kernel
theorem dL_drawn_199 : decode cL_drawn 199 = .ok (.ishr, 1) := by decide +kernel
theorem dL_drawn_200 : decode cL_drawn 200 = .ok (.iconst 2, 1) := by decide +kernel
theorem dL_drawn_201 : decode cL_drawn 201 = .ok (.invokestatic 27, 3) := by decide +kernel
theorem dL_drawn_204 : decode cL_drawn 204 = .ok (.ifCond .ne 8, 3) := by decide +kernel
theorem dL_drawn_207 : decode cL_drawn 207 = .ok (.bipush 30, 2) := by decide +kernel
theorem dL_drawn_209 : decode cL_drawn 209 = .ok (.goto 6, 3) := by decide +kernel
theorem dL_drawn_212 : decode cL_drawn 212 = .ok (.sipush 4000, 3) := by decide +kernel
theorem dL_drawn_215 : decode cL_drawn 215 = .ok (.invokestatic 27, 3) := by decide +kernel
theorem dL_drawn_218 : decode cL_drawn 218 = .ok (.iastore, 1) := by decide +kernel
theorem dL_drawn_219 : decode cL_drawn 219 = .ok (.dup, 1) := by decide +kernel
theorem dL_drawn_220 : decode cL_drawn 220 = .ok (.iconst 3, 1) := by decide +kernel
theorem dL_drawn_221 : decode cL_drawn 221 = .ok (.iload 6, 2) := by decide +kernel
theorem dL_drawn_223 : decode cL_drawn 223 = .ok (.iastore, 1) := by decide +kernel
theorem dL_drawn_224 : decode cL_drawn 224 = .ok (.dup, 1) := by decide +kernel
theorem dL_drawn_225 : decode cL_drawn 225 = .ok (.iconst 4, 1) := by decide +kernel
theorem dL_drawn_226 : decode cL_drawn 226 = .ok (.iconst 0, 1) := by decide +kernel
theorem dL_drawn_227 : decode cL_drawn 227 = .ok (.iastore, 1) := by decide +kernel
theorem dL_drawn_228 : decode cL_drawn 228 = .ok (.dup, 1) := by decide +kernel
theorem dL_drawn_229 : decode cL_drawn 229 = .ok (.iconst 5, 1) := by decide +kernel
theorem dL_drawn_230 : decode cL_drawn 230 = .ok (.iconst 0, 1) := by decide +kernel
theorem dL_drawn_231 : decode cL_drawn 231 = .ok (.iastore, 1) := by decide +kernel
theorem dL_drawn_232 : decode cL_drawn 232 = .ok (.dup, 1) := by decide +kernel
theorem dL_drawn_233 : decode cL_drawn 233 = .ok (.bipush 6, 2) := by decide +kernel
theorem dL_drawn_235 : decode cL_drawn 235 = .ok (.iconst 0, 1) := by decide +kernel
theorem dL_drawn_236 : decode cL_drawn 236 = .ok (.iastore, 1) := by decide +kernel
theorem dL_drawn_237 : decode cL_drawn 237 = .ok (.dup, 1) := by decide +kernel
theorem dL_drawn_238 : decode cL_drawn 238 = .ok (.bipush 7, 2) := by decide +kernel
theorem dL_drawn_240 : decode cL_drawn 240 = .ok (.iconst 0, 1) := by decide +kernel
theorem dL_drawn_241 : decode cL_drawn 241 = .ok (.iastore, 1) := by decide +kernel
theorem dL_drawn_242 : decode cL_drawn 242 = .ok (.dup, 1) := by decide +kernel
theorem dL_drawn_243 : decode cL_drawn 243 = .ok (.bipush 8, 2) := by decide +kernel
theorem dL_drawn_245 : decode cL_drawn 245 = .ok (.iconst (-1), 1) := by decide +kernel
theorem dL_drawn_246 : decode cL_drawn 246 = .ok (.iastore, 1) := by decide +kernel
theorem dL_drawn_247 : decode cL_drawn 247 = .ok (.dup, 1) := by decide +kernel
theorem dL_drawn_248 : decode cL_drawn 248 = .ok (.bipush 9, 2) := by decide +kernel
theorem dL_drawn_250 : decode cL_drawn 250 = .ok (.iconst 0, 1) := by decide +kernel
theorem dL_drawn_251 : decode cL_drawn 251 = .ok (.iastore, 1) := by decide +kernel
theorem dL_drawn_252 : decode cL_drawn 252 = .ok (.aastore, 1) := by decide +kernel
theorem dL_drawn_253 : decode cL_drawn 253 = .ok (.iconst 0, 1) := by decide +kernel
theorem dL_drawn_254 : decode cL_drawn 254 = .ok (.istore 7, 2) := by decide +kernel
theorem dL_drawn_256 : decode cL_drawn 256 = .ok (.iload 7, 2) := by decide +kernel
theorem dL_drawn_258 : decode cL_drawn 258 = .ok (.iload 6, 2) := by decide +kernel
theorem dL_drawn_260 : decode cL_drawn 260 = .ok (.if_icmp .ge 36, 3) := by decide +kernel
theorem dL_drawn_263 : decode cL_drawn 263 = .ok (.aload_n 2, 1) := by decide +kernel
theorem dL_drawn_264 : decode cL_drawn 264 = .ok (.getfield 42, 3) := by decide +kernel
theorem dL_drawn_267 : decode cL_drawn 267 = .ok (.iload 4, 2) := by decide +kernel
theorem dL_drawn_269 : decode cL_drawn 269 = .ok (.aaload, 1) := by decide +kernel
theorem dL_drawn_270 : decode cL_drawn 270 = .ok (.iconst 4, 1) := by decide +kernel
theorem dL_drawn_271 : decode cL_drawn 271 = .ok (.iload 7, 2) := by decide +kernel
theorem dL_drawn_273 : decode cL_drawn 273 = .ok (.iadd, 1) := by decide +kernel
theorem dL_drawn_274 : decode cL_drawn 274 = .ok (.iload 5, 2) := by decide +kernel
theorem dL_drawn_276 : decode cL_drawn 276 = .ok (.bipush 6, 2) := by decide +kernel
theorem dL_drawn_278 : decode cL_drawn 278 = .ok (.iconst 2, 1) := by decide +kernel
theorem dL_drawn_279 : decode cL_drawn 279 = .ok (.iload 7, 2) := by decide +kernel
theorem dL_drawn_281 : decode cL_drawn 281 = .ok (.imul, 1) := by decide +kernel
theorem dL_drawn_282 : decode cL_drawn 282 = .ok (.iadd, 1) := by decide +kernel
theorem dL_drawn_283 : decode cL_drawn 283 = .ok (.ishr, 1) := by decide +kernel
theorem dL_drawn_284 : decode cL_drawn 284 = .ok (.bipush 91, 2) := by decide +kernel
theorem dL_drawn_286 : decode cL_drawn 286 = .ok (.invokestatic 27, 3) := by decide +kernel
theorem dL_drawn_289 : decode cL_drawn 289 = .ok (.iastore, 1) := by decide +kernel
theorem dL_drawn_290 : decode cL_drawn 290 = .ok (.iinc 7 1, 3) := by decide +kernel
theorem dL_drawn_293 : decode cL_drawn 293 = .ok (.goto (-37), 3) := by decide +kernel
theorem dL_drawn_296 : decode cL_drawn 296 = .ok (.iconst 0, 1) := by decide +kernel
theorem dL_drawn_297 : decode cL_drawn 297 = .ok (.istore 7, 2) := by decide +kernel
theorem dL_drawn_299 : decode cL_drawn 299 = .ok (.iload 7, 2) := by decide +kernel
theorem dL_drawn_301 : decode cL_drawn 301 = .ok (.aload_n 2, 1) := by decide +kernel
theorem dL_drawn_302 : decode cL_drawn 302 = .ok (.getfield 31, 3) := by decide +kernel
theorem dL_drawn_305 : decode cL_drawn 305 = .ok (.if_icmp .gt 33, 3) := by decide +kernel
theorem dL_drawn_308 : decode cL_drawn 308 = .ok (.aload_n 2, 1) := by decide +kernel
theorem dL_drawn_309 : decode cL_drawn 309 = .ok (.getfield 45, 3) := by decide +kernel
theorem dL_drawn_312 : decode cL_drawn 312 = .ok (.iload 4, 2) := by decide +kernel
theorem dL_drawn_314 : decode cL_drawn 314 = .ok (.aaload, 1) := by decide +kernel
theorem dL_drawn_315 : decode cL_drawn 315 = .ok (.iload 7, 2) := by decide +kernel
theorem dL_drawn_317 : decode cL_drawn 317 = .ok (.iload 5, 2) := by decide +kernel
theorem dL_drawn_319 : decode cL_drawn 319 = .ok (.bipush 9, 2) := by decide +kernel
theorem dL_drawn_321 : decode cL_drawn 321 = .ok (.iconst 3, 1) := by decide +kernel
theorem dL_drawn_322 : decode cL_drawn 322 = .ok (.iload 7, 2) := by decide +kernel
theorem dL_drawn_324 : decode cL_drawn 324 = .ok (.imul, 1) := by decide +kernel
theorem dL_drawn_325 : decode cL_drawn 325 = .ok (.iadd, 1) := by decide +kernel
theorem dL_drawn_326 : decode cL_drawn 326 = .ok (.ishr, 1) := by decide +kernel
theorem dL_drawn_327 : decode cL_drawn 327 = .ok (.iconst 4, 1) := by decide +kernel
theorem dL_drawn_328 : decode cL_drawn 328 = .ok (.invokestatic 27, 3) := by decide +kernel
theorem dL_drawn_331 : decode cL_drawn 331 = .ok (.iastore, 1) := by decide +kernel
theorem dL_drawn_332 : decode cL_drawn 332 = .ok (.iinc 7 1, 3) := by decide +kernel
theorem dL_drawn_335 : decode cL_drawn 335 = .ok (.goto (-36), 3) := by decide +kernel
theorem dL_drawn_338 : decode cL_drawn 338 = .ok (.iinc 4 1, 3) := by decide +kernel
theorem dL_drawn_341 : decode cL_drawn 341 = .ok (.goto (-235), 3) := by decide +kernel
theorem dL_drawn_344 : decode cL_drawn 344 = .ok (.iload_n 3, 1) := by decide +kernel
theorem dL_drawn_345 : decode cL_drawn 345 = .ok (.bipush 11, 2) := by decide +kernel
theorem dL_drawn_347 : decode cL_drawn 347 = .ok (.ishr, 1) := by decide +kernel
theorem dL_drawn_348 : decode cL_drawn 348 = .ok (.bipush 7, 2) := by decide +kernel
theorem dL_drawn_350 : decode cL_drawn 350 = .ok (.invokestatic 27, 3) := by decide +kernel
theorem dL_drawn_353 : decode cL_drawn 353 = .ok (.istore 4, 2) := by decide +kernel
theorem dL_drawn_355 : decode cL_drawn 355 = .ok (.iconst 0, 1) := by decide +kernel
theorem dL_drawn_356 : decode cL_drawn 356 = .ok (.istore 5, 2) := by decide +kernel
theorem dL_drawn_358 : decode cL_drawn 358 = .ok (.iload 5, 2) := by decide +kernel
theorem dL_drawn_360 : decode cL_drawn 360 = .ok (.iload 4, 2) := by decide +kernel
theorem dL_drawn_362 : decode cL_drawn 362 = .ok (.if_icmp .ge 140, 3) := by decide +kernel
theorem dL_drawn_365 : decode cL_drawn 365 = .ok (.aload_n 0, 1) := by decide +kernel
theorem dL_drawn_366 : decode cL_drawn 366 = .ok (.iload_n 1, 1) := by decide +kernel
theorem dL_drawn_367 : decode cL_drawn 367 = .ok (.iconst 5, 1) := by decide +kernel
theorem dL_drawn_368 : decode cL_drawn 368 = .ok (.iadd, 1) := by decide +kernel
theorem dL_drawn_369 : decode cL_drawn 369 = .ok (.iload 5, 2) := by decide +kernel
theorem dL_drawn_371 : decode cL_drawn 371 = .ok (.iconst 3, 1) := by decide +kernel
theorem dL_drawn_372 : decode cL_drawn 372 = .ok (.irem, 1) := by decide +kernel
theorem dL_drawn_373 : decode cL_drawn 373 = .ok (.iadd, 1) := by decide +kernel
theorem dL_drawn_374 : decode cL_drawn 374 = .ok (.invokestatic 23, 3) := by decide +kernel
theorem dL_drawn_377 : decode cL_drawn 377 = .ok (.iload 5, 2) := by decide +kernel
theorem dL_drawn_379 : decode cL_drawn 379 = .ok (.iconst 3, 1) := by decide +kernel
theorem dL_drawn_380 : decode cL_drawn 380 = .ok (.idiv, 1) := by decide +kernel
theorem dL_drawn_381 : decode cL_drawn 381 = .ok (.iconst 4, 1) := by decide +kernel
theorem dL_drawn_382 : decode cL_drawn 382 = .ok (.imul, 1) := by decide +kernel
theorem dL_drawn_383 : decode cL_drawn 383 = .ok (.ishr, 1) := by decide +kernel
theorem dL_drawn_384 : decode cL_drawn 384 = .ok (.istore 6, 2) := by decide +kernel
theorem dL_drawn_386 : decode cL_drawn 386 = .ok (.iload 6, 2) := by decide +kernel
theorem dL_drawn_388 : decode cL_drawn 388 = .ok (.aload_n 2, 1) := by decide +kernel
theorem dL_drawn_389 : decode cL_drawn 389 = .ok (.getfield 31, 3) := by decide +kernel
theorem dL_drawn_392 : decode cL_drawn 392 = .ok (.invokestatic 27, 3) := by decide +kernel
theorem dL_drawn_395 : decode cL_drawn 395 = .ok (.istore 7, 2) := by decide +kernel
theorem dL_drawn_397 : decode cL_drawn 397 = .ok (.aload_n 2, 1) := by decide +kernel
theorem dL_drawn_398 : decode cL_drawn 398 = .ok (.iload 7, 2) := by decide +kernel
theorem dL_drawn_400 : decode cL_drawn 400 = .ok (.invokevirtual 48, 3) := by decide +kernel
theorem dL_drawn_403 : decode cL_drawn 403 = .ok (.arraylength, 1) := by decide +kernel
theorem dL_drawn_404 : decode cL_drawn 404 = .ok (.iconst 3, 1) := by decide +kernel
theorem dL_drawn_405 : decode cL_drawn 405 = .ok (.if_icmp .ne 6, 3) := by decide +kernel
theorem dL_drawn_408 : decode cL_drawn 408 = .ok (.goto 88, 3) := by decide +kernel
theorem dL_drawn_411 : decode cL_drawn 411 = .ok (.aload_n 2, 1) := by decide +kernel
theorem dL_drawn_412 : decode cL_drawn 412 = .ok (.getfield 52, 3) := by decide +kernel
theorem dL_drawn_415 : decode cL_drawn 415 = .ok (.aload_n 2, 1) := by decide +kernel
theorem dL_drawn_416 : decode cL_drawn 416 = .ok (.dup, 1) := by decide +kernel
theorem dL_drawn_417 : decode cL_drawn 417 = .ok (.getfield 55, 3) := by decide +kernel
theorem dL_drawn_420 : decode cL_drawn 420 = .ok (.dup_x1, 1) := by decide +kernel
theorem dL_drawn_421 : decode cL_drawn 421 = .ok (.iconst 1, 1) := by decide +kernel
theorem dL_drawn_422 : decode cL_drawn 422 = .ok (.iadd, 1) := by decide +kernel
theorem dL_drawn_423 : decode cL_drawn 423 = .ok (.putfield 55, 3) := by decide +kernel
theorem dL_drawn_426 : decode cL_drawn 426 = .ok (.bipush 8, 2) := by decide +kernel
theorem dL_drawn_428 : decode cL_drawn 428 = .ok (.newarray .int, 2) := by decide +kernel
theorem dL_drawn_430 : decode cL_drawn 430 = .ok (.dup, 1) := by decide +kernel
theorem dL_drawn_431 : decode cL_drawn 431 = .ok (.iconst 0, 1) := by decide +kernel
theorem dL_drawn_432 : decode cL_drawn 432 = .ok (.iload 7, 2) := by decide +kernel
theorem dL_drawn_434 : decode cL_drawn 434 = .ok (.iastore, 1) := by decide +kernel
theorem dL_drawn_435 : decode cL_drawn 435 = .ok (.dup, 1) := by decide +kernel
theorem dL_drawn_436 : decode cL_drawn 436 = .ok (.iconst 1, 1) := by decide +kernel
theorem dL_drawn_437 : decode cL_drawn 437 = .ok (.iconst 1, 1) := by decide +kernel
theorem dL_drawn_438 : decode cL_drawn 438 = .ok (.iload 6, 2) := by decide +kernel
theorem dL_drawn_440 : decode cL_drawn 440 = .ok (.iconst 2, 1) := by decide +kernel
theorem dL_drawn_441 : decode cL_drawn 441 = .ok (.ishr, 1) := by decide +kernel
theorem dL_drawn_442 : decode cL_drawn 442 = .ok (.bipush 60, 2) := by decide +kernel
theorem dL_drawn_444 : decode cL_drawn 444 = .ok (.invokestatic 27, 3) := by decide +kernel
theorem dL_drawn_447 : decode cL_drawn 447 = .ok (.iadd, 1) := by decide +kernel
theorem dL_drawn_448 : decode cL_drawn 448 = .ok (.iastore, 1) := by decide +kernel
theorem dL_drawn_449 : decode cL_drawn 449 = .ok (.dup, 1) := by decide +kernel
theorem dL_drawn_450 : decode cL_drawn 450 = .ok (.iconst 2, 1) := by decide +kernel
theorem dL_drawn_451 : decode cL_drawn 451 = .ok (.iconst 1, 1) := by decide +kernel
theorem dL_drawn_452 : decode cL_drawn 452 = .ok (.iload 6, 2) := by decide +kernel
theorem dL_drawn_454 : decode cL_drawn 454 = .ok (.iconst 5, 1) := by decide +kernel
theorem dL_drawn_455 : decode cL_drawn 455 = .ok (.ishr, 1) := by decide +kernel
theorem dL_drawn_456 : decode cL_drawn 456 = .ok (.bipush 6, 2) := by decide +kernel
theorem dL_drawn_458 : decode cL_drawn 458 = .ok (.invokestatic 27, 3) := by decide +kernel
theorem dL_drawn_461 : decode cL_drawn 461 = .ok (.iadd, 1) := by decide +kernel
theorem dL_drawn_462 : decode cL_drawn 462 = .ok (.iastore, 1) := by decide +kernel
theorem dL_drawn_463 : decode cL_drawn 463 = .ok (.dup, 1) := by decide +kernel
theorem dL_drawn_464 : decode cL_drawn 464 = .ok (.iconst 3, 1) := by decide +kernel
theorem dL_drawn_465 : decode cL_drawn 465 = .ok (.iload 6, 2) := by decide +kernel
theorem dL_drawn_467 : decode cL_drawn 467 = .ok (.bipush 7, 2) := by decide +kernel
theorem dL_drawn_469 : decode cL_drawn 469 = .ok (.ishr, 1) := by decide +kernel
theorem dL_drawn_470 : decode cL_drawn 470 = .ok (.sipush 200, 3) := by decide +kernel
theorem dL_drawn_473 : decode cL_drawn 473 = .ok (.invokestatic 27, 3) := by decide +kernel
theorem dL_drawn_476 : decode cL_drawn 476 = .ok (.iastore, 1) := by decide +kernel
theorem dL_drawn_477 : decode cL_drawn 477 = .ok (.dup, 1) := by decide +kernel
theorem dL_drawn_478 : decode cL_drawn 478 = .ok (.iconst 4, 1) := by decide +kernel
theorem dL_drawn_479 : decode cL_drawn 479 = .ok (.iconst (-1), 1) := by decide +kernel
theorem dL_drawn_480 : decode cL_drawn 480 = .ok (.iastore, 1) := by decide +kernel
theorem dL_drawn_481 : decode cL_drawn 481 = .ok (.dup, 1) := by decide +kernel
theorem dL_drawn_482 : decode cL_drawn 482 = .ok (.iconst 5, 1) := by decide +kernel
theorem dL_drawn_483 : decode cL_drawn 483 = .ok (.iconst (-1), 1) := by decide +kernel
theorem dL_drawn_484 : decode cL_drawn 484 = .ok (.iastore, 1) := by decide +kernel
theorem dL_drawn_485 : decode cL_drawn 485 = .ok (.dup, 1) := by decide +kernel
theorem dL_drawn_486 : decode cL_drawn 486 = .ok (.bipush 6, 2) := by decide +kernel
theorem dL_drawn_488 : decode cL_drawn 488 = .ok (.iconst 0, 1) := by decide +kernel
theorem dL_drawn_489 : decode cL_drawn 489 = .ok (.iastore, 1) := by decide +kernel
theorem dL_drawn_490 : decode cL_drawn 490 = .ok (.dup, 1) := by decide +kernel
theorem dL_drawn_491 : decode cL_drawn 491 = .ok (.bipush 7, 2) := by decide +kernel
theorem dL_drawn_493 : decode cL_drawn 493 = .ok (.iconst 0, 1) := by decide +kernel
theorem dL_drawn_494 : decode cL_drawn 494 = .ok (.iastore, 1) := by decide +kernel
theorem dL_drawn_495 : decode cL_drawn 495 = .ok (.aastore, 1) := by decide +kernel
theorem dL_drawn_496 : decode cL_drawn 496 = .ok (.iinc 5 1, 3) := by decide +kernel
theorem dL_drawn_499 : decode cL_drawn 499 = .ok (.goto (-141), 3) := by decide +kernel
theorem dL_drawn_502 : decode cL_drawn 502 = .ok (.aload_n 2, 1) := by decide +kernel
theorem dL_drawn_503 : decode cL_drawn 503 = .ok (.iload_n 3, 1) := by decide +kernel
theorem dL_drawn_504 : decode cL_drawn 504 = .ok (.bipush 13, 2) := by decide +kernel
theorem dL_drawn_506 : decode cL_drawn 506 = .ok (.ishr, 1) := by decide +kernel
theorem dL_drawn_507 : decode cL_drawn 507 = .ok (.iconst 2, 1) := by decide +kernel
theorem dL_drawn_508 : decode cL_drawn 508 = .ok (.invokestatic 27, 3) := by decide +kernel
theorem dL_drawn_511 : decode cL_drawn 511 = .ok (.ifCond .ne 16, 3) := by decide +kernel
theorem dL_drawn_514 : decode cL_drawn 514 = .ok (.iload_n 3, 1) := by decide +kernel
theorem dL_drawn_515 : decode cL_drawn 515 = .ok (.bipush 14, 2) := by decide +kernel
theorem dL_drawn_517 : decode cL_drawn 517 = .ok (.ishr, 1) := by decide +kernel
theorem dL_drawn_518 : decode cL_drawn 518 = .ok (.sipush 1000, 3) := by decide +kernel
theorem dL_drawn_521 : decode cL_drawn 521 = .ok (.invokestatic 27, 3) := by decide +kernel
theorem dL_drawn_524 : decode cL_drawn 524 = .ok (.goto 4, 3) := by decide +kernel
theorem dL_drawn_527 : decode cL_drawn 527 = .ok (.iconst 0, 1) := by decide +kernel
theorem dL_drawn_528 : decode cL_drawn 528 = .ok (.putfield 58, 3) := by decide +kernel
theorem dL_drawn_531 : decode cL_drawn 531 = .ok (.aload_n 2, 1) := by decide +kernel
theorem dL_drawn_532 : decode cL_drawn 532 = .ok (.areturn, 1) := by decide +kernel
theorem dL_word_0 : decode cL_word 0 = .ok (.iconst 0, 1) := by decide +kernel
theorem dL_word_1 : decode cL_word 1 = .ok (.istore_n 3, 1) := by decide +kernel
theorem dL_word_2 : decode cL_word 2 = .ok (.iload_n 3, 1) := by decide +kernel
theorem dL_word_3 : decode cL_word 3 = .ok (.aload_n 2, 1) := by decide +kernel
theorem dL_word_4 : decode cL_word 4 = .ok (.invokevirtual 61, 3) := by decide +kernel
theorem dL_word_7 : decode cL_word 7 = .ok (.if_icmp .ge 19, 3) := by decide +kernel
theorem dL_word_10 : decode cL_word 10 = .ok (.aload_n 0, 1) := by decide +kernel
theorem dL_word_11 : decode cL_word 11 = .ok (.aload_n 1, 1) := by decide +kernel
theorem dL_word_12 : decode cL_word 12 = .ok (.aload_n 2, 1) := by decide +kernel
theorem dL_word_13 : decode cL_word 13 = .ok (.iload_n 3, 1) := by decide +kernel
theorem dL_word_14 : decode cL_word 14 = .ok (.invokevirtual 67, 3) := by decide +kernel
theorem dL_word_17 : decode cL_word 17 = .ok (.invokestatic 14, 3) := by decide +kernel
theorem dL_word_20 : decode cL_word 20 = .ok (.iinc 3 1, 3) := by decide +kernel
theorem dL_word_23 : decode cL_word 23 = .ok (.goto (-21), 3) := by decide +kernel
theorem dL_word_26 : decode cL_word 26 = .ok (.return_, 1) := by decide +kernel
theorem dL_with_0 : decode cL_with 0 = .ok (.aload_n 0, 1) := by decide +kernel
theorem dL_with_1 : decode cL_with 1 = .ok (.aload_n 1, 1) := by decide +kernel
theorem dL_with_2 : decode cL_with 2 = .ok (.aload_n 2, 1) := by decide +kernel
theorem dL_with_3 : decode cL_with 3 = .ok (.invokestatic 71, 3) := by decide +kernel
theorem dL_with_6 : decode cL_with 6 = .ok (.aload_n 0, 1) := by decide +kernel
theorem dL_with_7 : decode cL_with 7 = .ok (.aload_n 1, 1) := by decide +kernel
theorem dL_with_8 : decode cL_with 8 = .ok (.iload_n 3, 1) := by decide +kernel
theorem dL_with_9 : decode cL_with 9 = .ok (.invokestatic 75, 3) := by decide +kernel
theorem dL_with_12 : decode cL_with 12 = .ok (.return_, 1) := by decide +kernel
theorem dL_tell_0 : decode cL_tell 0 = .ok (.iconst 0, 1) := by decide +kernel
theorem dL_tell_1 : decode cL_tell 1 = .ok (.istore_n 3, 1) := by decide +kernel
theorem dL_tell_2 : decode cL_tell 2 = .ok (.iload_n 3, 1) := by decide +kernel
theorem dL_tell_3 : decode cL_tell 3 = .ok (.aload_n 2, 1) := by decide +kernel
theorem dL_tell_4 : decode cL_tell 4 = .ok (.getfield 31, 3) := by decide +kernel
theorem dL_tell_7 : decode cL_tell 7 = .ok (.if_icmp .ge 46, 3) := by decide +kernel
theorem dL_tell_10 : decode cL_tell 10 = .ok (.aload_n 0, 1) := by decide +kernel
theorem dL_tell_11 : decode cL_tell 11 = .ok (.aload_n 1, 1) := by decide +kernel
theorem dL_tell_12 : decode cL_tell 12 = .ok (.ldc 78, 2) := by decide +kernel
theorem dL_tell_14 : decode cL_tell 14 = .ok (.aload_n 2, 1) := by decide +kernel
theorem dL_tell_15 : decode cL_tell 15 = .ok (.getfield 35, 3) := by decide +kernel
theorem dL_tell_18 : decode cL_tell 18 = .ok (.iload_n 3, 1) := by decide +kernel
theorem dL_tell_19 : decode cL_tell 19 = .ok (.aaload, 1) := by decide +kernel
theorem dL_tell_20 : decode cL_tell 20 = .ok (.iconst 0, 1) := by decide +kernel
theorem dL_tell_21 : decode cL_tell 21 = .ok (.iaload, 1) := by decide +kernel
theorem dL_tell_22 : decode cL_tell 22 = .ok (.invokestatic 80, 3) := by decide +kernel
theorem dL_tell_25 : decode cL_tell 25 = .ok (.aload_n 0, 1) := by decide +kernel
theorem dL_tell_26 : decode cL_tell 26 = .ok (.aload_n 1, 1) := by decide +kernel
theorem dL_tell_27 : decode cL_tell 27 = .ok (.ldc 84, 2) := by decide +kernel
theorem dL_tell_29 : decode cL_tell 29 = .ok (.aload_n 2, 1) := by decide +kernel
theorem dL_tell_30 : decode cL_tell 30 = .ok (.getfield 35, 3) := by decide +kernel
theorem dL_tell_33 : decode cL_tell 33 = .ok (.iload_n 3, 1) := by decide +kernel
theorem dL_tell_34 : decode cL_tell 34 = .ok (.aaload, 1) := by decide +kernel
theorem dL_tell_35 : decode cL_tell 35 = .ok (.iconst 1, 1) := by decide +kernel
theorem dL_tell_36 : decode cL_tell 36 = .ok (.iaload, 1) := by decide +kernel
theorem dL_tell_37 : decode cL_tell 37 = .ok (.invokestatic 80, 3) := by decide +kernel
theorem dL_tell_40 : decode cL_tell 40 = .ok (.aload_n 0, 1) := by decide +kernel
theorem dL_tell_41 : decode cL_tell 41 = .ok (.aload_n 1, 1) := by decide +kernel
theorem dL_tell_42 : decode cL_tell 42 = .ok (.bipush 59, 2) := by decide +kernel
theorem dL_tell_44 : decode cL_tell 44 = .ok (.invokestatic 14, 3) := by decide +kernel
theorem dL_tell_47 : decode cL_tell 47 = .ok (.iinc 3 1, 3) := by decide +kernel
theorem dL_tell_50 : decode cL_tell 50 = .ok (.goto (-48), 3) := by decide +kernel
theorem dL_tell_53 : decode cL_tell 53 = .ok (.iconst 0, 1) := by decide +kernel
theorem dL_tell_54 : decode cL_tell 54 = .ok (.istore_n 3, 1) := by decide +kernel
theorem dL_tell_55 : decode cL_tell 55 = .ok (.iload_n 3, 1) := by decide +kernel
theorem dL_tell_56 : decode cL_tell 56 = .ok (.aload_n 2, 1) := by decide +kernel
theorem dL_tell_57 : decode cL_tell 57 = .ok (.getfield 55, 3) := by decide +kernel
theorem dL_tell_60 : decode cL_tell 60 = .ok (.if_icmp .ge 54, 3) := by decide +kernel
theorem dL_tell_63 : decode cL_tell 63 = .ok (.aload_n 0, 1) := by decide +kernel
theorem dL_tell_64 : decode cL_tell 64 = .ok (.aload_n 1, 1) := by decide +kernel
theorem dL_tell_65 : decode cL_tell 65 = .ok (.ldc 86, 2) := by decide +kernel
theorem dL_tell_67 : decode cL_tell 67 = .ok (.invokestatic 71, 3) := by decide +kernel
theorem dL_tell_70 : decode cL_tell 70 = .ok (.iconst 0, 1) := by decide +kernel
theorem dL_tell_71 : decode cL_tell 71 = .ok (.istore 4, 2) := by decide +kernel
theorem dL_tell_73 : decode cL_tell 73 = .ok (.iload 4, 2) := by decide +kernel
theorem dL_tell_75 : decode cL_tell 75 = .ok (.iconst 4, 1) := by decide +kernel
theorem dL_tell_76 : decode cL_tell 76 = .ok (.if_icmp .ge 25, 3) := by decide +kernel
theorem dL_tell_79 : decode cL_tell 79 = .ok (.aload_n 0, 1) := by decide +kernel
theorem dL_tell_80 : decode cL_tell 80 = .ok (.aload_n 1, 1) := by decide +kernel
theorem dL_tell_81 : decode cL_tell 81 = .ok (.ldc 84, 2) := by decide +kernel
theorem dL_tell_83 : decode cL_tell 83 = .ok (.aload_n 2, 1) := by decide +kernel
theorem dL_tell_84 : decode cL_tell 84 = .ok (.getfield 52, 3) := by decide +kernel
theorem dL_tell_87 : decode cL_tell 87 = .ok (.iload_n 3, 1) := by decide +kernel
theorem dL_tell_88 : decode cL_tell 88 = .ok (.aaload, 1) := by decide +kernel
theorem dL_tell_89 : decode cL_tell 89 = .ok (.iload 4, 2) := by decide +kernel
theorem dL_tell_91 : decode cL_tell 91 = .ok (.iaload, 1) := by decide +kernel
theorem dL_tell_92 : decode cL_tell 92 = .ok (.invokestatic 80, 3) := by decide +kernel
theorem dL_tell_95 : decode cL_tell 95 = .ok (.iinc 4 1, 3) := by decide +kernel
theorem dL_tell_98 : decode cL_tell 98 = .ok (.goto (-25), 3) := by decide +kernel
theorem dL_tell_101 : decode cL_tell 101 = .ok (.aload_n 0, 1) := by decide +kernel
theorem dL_tell_102 : decode cL_tell 102 = .ok (.aload_n 1, 1) := by decide +kernel
theorem dL_tell_103 : decode cL_tell 103 = .ok (.bipush 59, 2) := by decide +kernel
theorem dL_tell_105 : decode cL_tell 105 = .ok (.invokestatic 14, 3) := by decide +kernel
theorem dL_tell_108 : decode cL_tell 108 = .ok (.iinc 3 1, 3) := by decide +kernel
theorem dL_tell_111 : decode cL_tell 111 = .ok (.goto (-56), 3) := by decide +kernel
theorem dL_tell_114 : decode cL_tell 114 = .ok (.iconst 0, 1) := by decide +kernel
theorem dL_tell_115 : decode cL_tell 115 = .ok (.istore_n 3, 1) := by decide +kernel
theorem dL_tell_116 : decode cL_tell 116 = .ok (.iload_n 3, 1) := by decide +kernel
theorem dL_tell_117 : decode cL_tell 117 = .ok (.aload_n 2, 1) := by decide +kernel
theorem dL_tell_118 : decode cL_tell 118 = .ok (.getfield 39, 3) := by decide +kernel
theorem dL_tell_121 : decode cL_tell 121 = .ok (.if_icmp .ge 184, 3) := by decide +kernel
theorem dL_tell_124 : decode cL_tell 124 = .ok (.aload_n 0, 1) := by decide +kernel
theorem dL_tell_125 : decode cL_tell 125 = .ok (.aload_n 1, 1) := by decide +kernel
theorem dL_tell_126 : decode cL_tell 126 = .ok (.ldc 87, 2) := by decide +kernel
theorem dL_tell_128 : decode cL_tell 128 = .ok (.invokestatic 71, 3) := by decide +kernel
theorem dL_tell_131 : decode cL_tell 131 = .ok (.iconst 0, 1) := by decide +kernel
theorem dL_tell_132 : decode cL_tell 132 = .ok (.istore 4, 2) := by decide +kernel
theorem dL_tell_134 : decode cL_tell 134 = .ok (.iload 4, 2) := by decide +kernel
theorem dL_tell_136 : decode cL_tell 136 = .ok (.iconst 3, 1) := by decide +kernel
theorem dL_tell_137 : decode cL_tell 137 = .ok (.if_icmp .ge 25, 3) := by decide +kernel
theorem dL_tell_140 : decode cL_tell 140 = .ok (.aload_n 0, 1) := by decide +kernel
theorem dL_tell_141 : decode cL_tell 141 = .ok (.aload_n 1, 1) := by decide +kernel
theorem dL_tell_142 : decode cL_tell 142 = .ok (.ldc 84, 2) := by decide +kernel
theorem dL_tell_144 : decode cL_tell 144 = .ok (.aload_n 2, 1) := by decide +kernel
theorem dL_tell_145 : decode cL_tell 145 = .ok (.getfield 42, 3) := by decide +kernel
theorem dL_tell_148 : decode cL_tell 148 = .ok (.iload_n 3, 1) := by decide +kernel
theorem dL_tell_149 : decode cL_tell 149 = .ok (.aaload, 1) := by decide +kernel
theorem dL_tell_150 : decode cL_tell 150 = .ok (.iload 4, 2) := by decide +kernel
theorem dL_tell_152 : decode cL_tell 152 = .ok (.iaload, 1) := by decide +kernel
theorem dL_tell_153 : decode cL_tell 153 = .ok (.invokestatic 80, 3) := by decide +kernel
theorem dL_tell_156 : decode cL_tell 156 = .ok (.iinc 4 1, 3) := by decide +kernel
theorem dL_tell_159 : decode cL_tell 159 = .ok (.goto (-25), 3) := by decide +kernel
theorem dL_tell_162 : decode cL_tell 162 = .ok (.iconst 0, 1) := by decide +kernel
theorem dL_tell_163 : decode cL_tell 163 = .ok (.istore 4, 2) := by decide +kernel
theorem dL_tell_165 : decode cL_tell 165 = .ok (.iload 4, 2) := by decide +kernel
theorem dL_tell_167 : decode cL_tell 167 = .ok (.aload_n 2, 1) := by decide +kernel
theorem dL_tell_168 : decode cL_tell 168 = .ok (.getfield 42, 3) := by decide +kernel
theorem dL_tell_171 : decode cL_tell 171 = .ok (.iload_n 3, 1) := by decide +kernel
theorem dL_tell_172 : decode cL_tell 172 = .ok (.aaload, 1) := by decide +kernel
theorem dL_tell_173 : decode cL_tell 173 = .ok (.iconst 3, 1) := by decide +kernel
theorem dL_tell_174 : decode cL_tell 174 = .ok (.iaload, 1) := by decide +kernel
theorem dL_tell_175 : decode cL_tell 175 = .ok (.if_icmp .ge 27, 3) := by decide +kernel
theorem dL_tell_178 : decode cL_tell 178 = .ok (.aload_n 0, 1) := by decide +kernel
theorem dL_tell_179 : decode cL_tell 179 = .ok (.aload_n 1, 1) := by decide +kernel
theorem dL_tell_180 : decode cL_tell 180 = .ok (.ldc 84, 2) := by decide +kernel
theorem dL_tell_182 : decode cL_tell 182 = .ok (.aload_n 2, 1) := by decide +kernel
theorem dL_tell_183 : decode cL_tell 183 = .ok (.getfield 42, 3) := by decide +kernel
theorem dL_tell_186 : decode cL_tell 186 = .ok (.iload_n 3, 1) := by decide +kernel
theorem dL_tell_187 : decode cL_tell 187 = .ok (.aaload, 1) := by decide +kernel
theorem dL_tell_188 : decode cL_tell 188 = .ok (.iconst 4, 1) := by decide +kernel
theorem dL_tell_189 : decode cL_tell 189 = .ok (.iload 4, 2) := by decide +kernel
theorem dL_tell_191 : decode cL_tell 191 = .ok (.iadd, 1) := by decide +kernel
theorem dL_tell_192 : decode cL_tell 192 = .ok (.iaload, 1) := by decide +kernel
theorem dL_tell_193 : decode cL_tell 193 = .ok (.invokestatic 80, 3) := by decide +kernel
theorem dL_tell_196 : decode cL_tell 196 = .ok (.iinc 4 1, 3) := by decide +kernel
theorem dL_tell_199 : decode cL_tell 199 = .ok (.goto (-34), 3) := by decide +kernel
theorem dL_tell_202 : decode cL_tell 202 = .ok (.aload_n 0, 1) := by decide +kernel
theorem dL_tell_203 : decode cL_tell 203 = .ok (.aload_n 1, 1) := by decide +kernel
theorem dL_tell_204 : decode cL_tell 204 = .ok (.bipush 59, 2) := by decide +kernel
theorem dL_tell_206 : decode cL_tell 206 = .ok (.invokestatic 14, 3) := by decide +kernel
theorem dL_tell_209 : decode cL_tell 209 = .ok (.iconst 0, 1) := by decide +kernel
theorem dL_tell_210 : decode cL_tell 210 = .ok (.istore 4, 2) := by decide +kernel
theorem dL_tell_212 : decode cL_tell 212 = .ok (.iload 4, 2) := by decide +kernel
theorem dL_tell_214 : decode cL_tell 214 = .ok (.aload_n 2, 1) := by decide +kernel
theorem dL_tell_215 : decode cL_tell 215 = .ok (.getfield 31, 3) := by decide +kernel
theorem dL_tell_218 : decode cL_tell 218 = .ok (.if_icmp .gt 81, 3) := by decide +kernel
theorem dL_tell_221 : decode cL_tell 221 = .ok (.aload_n 2, 1) := by decide +kernel
theorem dL_tell_222 : decode cL_tell 222 = .ok (.getfield 45, 3) := by decide +kernel
theorem dL_tell_225 : decode cL_tell 225 = .ok (.iload_n 3, 1) := by decide +kernel
theorem dL_tell_226 : decode cL_tell 226 = .ok (.aaload, 1) := by decide +kernel
theorem dL_tell_227 : decode cL_tell 227 = .ok (.iload 4, 2) := by decide +kernel
theorem dL_tell_229 : decode cL_tell 229 = .ok (.iaload, 1) := by decide +kernel
theorem dL_tell_230 : decode cL_tell 230 = .ok (.ifCond .ne 6, 3) := by decide +kernel
theorem dL_tell_233 : decode cL_tell 233 = .ok (.goto 60, 3) := by decide +kernel
theorem dL_tell_236 : decode cL_tell 236 = .ok (.aload_n 0, 1) := by decide +kernel
theorem dL_tell_237 : decode cL_tell 237 = .ok (.aload_n 1, 1) := by decide +kernel
theorem dL_tell_238 : decode cL_tell 238 = .ok (.ldc 88, 2) := by decide +kernel
theorem dL_tell_240 : decode cL_tell 240 = .ok (.iload_n 3, 1) := by decide +kernel
theorem dL_tell_241 : decode cL_tell 241 = .ok (.invokestatic 80, 3) := by decide +kernel
theorem dL_tell_244 : decode cL_tell 244 = .ok (.iload 4, 2) := by decide +kernel
theorem dL_tell_246 : decode cL_tell 246 = .ok (.ifCond .ne 13, 3) := by decide +kernel
theorem dL_tell_249 : decode cL_tell 249 = .ok (.aload_n 0, 1) := by decide +kernel
theorem dL_tell_250 : decode cL_tell 250 = .ok (.aload_n 1, 1) := by decide +kernel
theorem dL_tell_251 : decode cL_tell 251 = .ok (.ldc 90, 2) := by decide +kernel
theorem dL_tell_253 : decode cL_tell 253 = .ok (.invokestatic 71, 3) := by decide +kernel
theorem dL_tell_256 : decode cL_tell 256 = .ok (.goto 14, 3) := by decide +kernel
theorem dL_tell_259 : decode cL_tell 259 = .ok (.aload_n 0, 1) := by decide +kernel
theorem dL_tell_260 : decode cL_tell 260 = .ok (.aload_n 1, 1) := by decide +kernel
theorem dL_tell_261 : decode cL_tell 261 = .ok (.ldc 84, 2) := by decide +kernel
theorem dL_tell_263 : decode cL_tell 263 = .ok (.iload 4, 2) := by decide +kernel
theorem dL_tell_265 : decode cL_tell 265 = .ok (.iconst 1, 1) := by decide +kernel
theorem dL_tell_266 : decode cL_tell 266 = .ok (.isub, 1) := by decide +kernel
theorem dL_tell_267 : decode cL_tell 267 = .ok (.invokestatic 80, 3) := by decide +kernel
theorem dL_tell_270 : decode cL_tell 270 = .ok (.aload_n 0, 1) := by decide +kernel
theorem dL_tell_271 : decode cL_tell 271 = .ok (.aload_n 1, 1) := by decide +kernel
theorem dL_tell_272 : decode cL_tell 272 = .ok (.ldc 84, 2) := by decide +kernel
theorem dL_tell_274 : decode cL_tell 274 = .ok (.aload_n 2, 1) := by decide +kernel
theorem dL_tell_275 : decode cL_tell 275 = .ok (.getfield 45, 3) := by decide +kernel
theorem dL_tell_278 : decode cL_tell 278 = .ok (.iload_n 3, 1) := by decide +kernel
theorem dL_tell_279 : decode cL_tell 279 = .ok (.aaload, 1) := by decide +kernel
theorem dL_tell_280 : decode cL_tell 280 = .ok (.iload 4, 2) := by decide +kernel
theorem dL_tell_282 : decode cL_tell 282 = .ok (.iaload, 1) := by decide +kernel
theorem dL_tell_283 : decode cL_tell 283 = .ok (.invokestatic 80, 3) := by decide +kernel
theorem dL_tell_286 : decode cL_tell 286 = .ok (.aload_n 0, 1) := by decide +kernel
theorem dL_tell_287 : decode cL_tell 287 = .ok (.aload_n 1, 1) := by decide +kernel
theorem dL_tell_288 : decode cL_tell 288 = .ok (.bipush 59, 2) := by decide +kernel
theorem dL_tell_290 : decode cL_tell 290 = .ok (.invokestatic 14, 3) := by decide +kernel
theorem dL_tell_293 : decode cL_tell 293 = .ok (.iinc 4 1, 3) := by decide +kernel
theorem dL_tell_296 : decode cL_tell 296 = .ok (.goto (-84), 3) := by decide +kernel
theorem dL_tell_299 : decode cL_tell 299 = .ok (.iinc 3 1, 3) := by decide +kernel
theorem dL_tell_302 : decode cL_tell 302 = .ok (.goto (-186), 3) := by decide +kernel
theorem dL_tell_305 : decode cL_tell 305 = .ok (.aload_n 0, 1) := by decide +kernel
theorem dL_tell_306 : decode cL_tell 306 = .ok (.aload_n 1, 1) := by decide +kernel
theorem dL_tell_307 : decode cL_tell 307 = .ok (.ldc 92, 2) := by decide +kernel
theorem dL_tell_309 : decode cL_tell 309 = .ok (.aload_n 2, 1) := by decide +kernel
theorem dL_tell_310 : decode cL_tell 310 = .ok (.getfield 58, 3) := by decide +kernel
theorem dL_tell_313 : decode cL_tell 313 = .ok (.invokestatic 80, 3) := by decide +kernel
theorem dL_tell_316 : decode cL_tell 316 = .ok (.aload_n 0, 1) := by decide +kernel
theorem dL_tell_317 : decode cL_tell 317 = .ok (.aload_n 1, 1) := by decide +kernel
theorem dL_tell_318 : decode cL_tell 318 = .ok (.bipush 59, 2) := by decide +kernel
theorem dL_tell_320 : decode cL_tell 320 = .ok (.invokestatic 14, 3) := by decide +kernel
theorem dL_tell_323 : decode cL_tell 323 = .ok (.aload_n 0, 1) := by decide +kernel
theorem dL_tell_324 : decode cL_tell 324 = .ok (.aload_n 0, 1) := by decide +kernel
theorem dL_tell_325 : decode cL_tell 325 = .ok (.aload_n 1, 1) := by decide +kernel
theorem dL_tell_326 : decode cL_tell 326 = .ok (.invokestatic 94, 3) := by decide +kernel
theorem dL_tell_329 : decode cL_tell 329 = .ok (.invokevirtual 98, 3) := by decide +kernel
theorem dL_tell_332 : decode cL_tell 332 = .ok (.ireturn, 1) := by decide +kernel
theorem dL_all_0 : decode cL_all 0 = .ok (.lconst 0, 1) := by decide +kernel
theorem dL_all_1 : decode cL_all 1 = .ok (.lstore_n 1, 1) := by decide +kernel
theorem dL_all_2 : decode cL_all 2 = .ok (.iconst 0, 1) := by decide +kernel
theorem dL_all_3 : decode cL_all 3 = .ok (.istore_n 3, 1) := by decide +kernel
theorem dL_all_4 : decode cL_all 4 = .ok (.iload_n 3, 1) := by decide +kernel
theorem dL_all_5 : decode cL_all 5 = .ok (.bipush 8, 2) := by decide +kernel
theorem dL_all_7 : decode cL_all 7 = .ok (.if_icmp .ge 22, 3) := by decide +kernel
theorem dL_all_10 : decode cL_all 10 = .ok (.ldc2_w 192, 3) := by decide +kernel
theorem dL_all_13 : decode cL_all 13 = .ok (.lload_n 1, 1) := by decide +kernel
theorem dL_all_14 : decode cL_all 14 = .ok (.lmul, 1) := by decide +kernel
theorem dL_all_15 : decode cL_all 15 = .ok (.aload_n 0, 1) := by decide +kernel
theorem dL_all_16 : decode cL_all 16 = .ok (.iload_n 3, 1) := by decide +kernel
theorem dL_all_17 : decode cL_all 17 = .ok (.invokevirtual 110, 3) := by decide +kernel
theorem dL_all_20 : decode cL_all 20 = .ok (.i2l, 1) := by decide +kernel
theorem dL_all_21 : decode cL_all 21 = .ok (.ladd, 1) := by decide +kernel
theorem dL_all_22 : decode cL_all 22 = .ok (.lstore_n 1, 1) := by decide +kernel
theorem dL_all_23 : decode cL_all 23 = .ok (.iinc 3 1, 3) := by decide +kernel
theorem dL_all_26 : decode cL_all 26 = .ok (.goto (-22), 3) := by decide +kernel
theorem dL_all_29 : decode cL_all 29 = .ok (.iconst 0, 1) := by decide +kernel
theorem dL_all_30 : decode cL_all 30 = .ok (.istore_n 3, 1) := by decide +kernel
theorem dL_all_31 : decode cL_all 31 = .ok (.iload_n 3, 1) := by decide +kernel
theorem dL_all_32 : decode cL_all 32 = .ok (.aload_n 0, 1) := by decide +kernel
theorem dL_all_33 : decode cL_all 33 = .ok (.iconst 1, 1) := by decide +kernel
theorem dL_all_34 : decode cL_all 34 = .ok (.invokevirtual 110, 3) := by decide +kernel
theorem dL_all_37 : decode cL_all 37 = .ok (.if_icmp .ge 40, 3) := by decide +kernel
theorem dL_all_40 : decode cL_all 40 = .ok (.iconst 0, 1) := by decide +kernel
theorem dL_all_41 : decode cL_all 41 = .ok (.istore 4, 2) := by decide +kernel
theorem dL_all_43 : decode cL_all 43 = .ok (.iload 4, 2) := by decide +kernel
theorem dL_all_45 : decode cL_all 45 = .ok (.bipush 9, 2) := by decide +kernel
theorem dL_all_47 : decode cL_all 47 = .ok (.if_icmp .ge 24, 3) := by decide +kernel
theorem dL_all_50 : decode cL_all 50 = .ok (.ldc2_w 192, 3) := by decide +kernel
theorem dL_all_53 : decode cL_all 53 = .ok (.lload_n 1, 1) := by decide +kernel
theorem dL_all_54 : decode cL_all 54 = .ok (.lmul, 1) := by decide +kernel
theorem dL_all_55 : decode cL_all 55 = .ok (.aload_n 0, 1) := by decide +kernel
theorem dL_all_56 : decode cL_all 56 = .ok (.iload_n 3, 1) := by decide +kernel
theorem dL_all_57 : decode cL_all 57 = .ok (.iload 4, 2) := by decide +kernel
theorem dL_all_59 : decode cL_all 59 = .ok (.invokevirtual 108, 3) := by decide +kernel
theorem dL_all_62 : decode cL_all 62 = .ok (.i2l, 1) := by decide +kernel
theorem dL_all_63 : decode cL_all 63 = .ok (.ladd, 1) := by decide +kernel
theorem dL_all_64 : decode cL_all 64 = .ok (.lstore_n 1, 1) := by decide +kernel
theorem dL_all_65 : decode cL_all 65 = .ok (.iinc 4 1, 3) := by decide +kernel
theorem dL_all_68 : decode cL_all 68 = .ok (.goto (-25), 3) := by decide +kernel
theorem dL_all_71 : decode cL_all 71 = .ok (.iinc 3 1, 3) := by decide +kernel
theorem dL_all_74 : decode cL_all 74 = .ok (.goto (-43), 3) := by decide +kernel
theorem dL_all_77 : decode cL_all 77 = .ok (.iconst 0, 1) := by decide +kernel
theorem dL_all_78 : decode cL_all 78 = .ok (.istore_n 3, 1) := by decide +kernel
theorem dL_all_79 : decode cL_all 79 = .ok (.iload_n 3, 1) := by decide +kernel
theorem dL_all_80 : decode cL_all 80 = .ok (.aload_n 0, 1) := by decide +kernel
theorem dL_all_81 : decode cL_all 81 = .ok (.iconst 0, 1) := by decide +kernel
theorem dL_all_82 : decode cL_all 82 = .ok (.invokevirtual 110, 3) := by decide +kernel
theorem dL_all_85 : decode cL_all 85 = .ok (.if_icmp .ge 40, 3) := by decide +kernel
theorem dL_all_88 : decode cL_all 88 = .ok (.iconst 0, 1) := by decide +kernel
theorem dL_all_89 : decode cL_all 89 = .ok (.istore 4, 2) := by decide +kernel
theorem dL_all_91 : decode cL_all 91 = .ok (.iload 4, 2) := by decide +kernel
theorem dL_all_93 : decode cL_all 93 = .ok (.bipush 6, 2) := by decide +kernel
theorem dL_all_95 : decode cL_all 95 = .ok (.if_icmp .ge 24, 3) := by decide +kernel
theorem dL_all_98 : decode cL_all 98 = .ok (.ldc2_w 192, 3) := by decide +kernel
theorem dL_all_101 : decode cL_all 101 = .ok (.lload_n 1, 1) := by decide +kernel
theorem dL_all_102 : decode cL_all 102 = .ok (.lmul, 1) := by decide +kernel
theorem dL_all_103 : decode cL_all 103 = .ok (.aload_n 0, 1) := by decide +kernel
theorem dL_all_104 : decode cL_all 104 = .ok (.iload_n 3, 1) := by decide +kernel
theorem dL_all_105 : decode cL_all 105 = .ok (.iload 4, 2) := by decide +kernel
theorem dL_all_107 : decode cL_all 107 = .ok (.invokevirtual 113, 3) := by decide +kernel
theorem dL_all_110 : decode cL_all 110 = .ok (.i2l, 1) := by decide +kernel
theorem dL_all_111 : decode cL_all 111 = .ok (.ladd, 1) := by decide +kernel
theorem dL_all_112 : decode cL_all 112 = .ok (.lstore_n 1, 1) := by decide +kernel
theorem dL_all_113 : decode cL_all 113 = .ok (.iinc 4 1, 3) := by decide +kernel
theorem dL_all_116 : decode cL_all 116 = .ok (.goto (-25), 3) := by decide +kernel
theorem dL_all_119 : decode cL_all 119 = .ok (.iinc 3 1, 3) := by decide +kernel
theorem dL_all_122 : decode cL_all 122 = .ok (.goto (-43), 3) := by decide +kernel
theorem dL_all_125 : decode cL_all 125 = .ok (.iconst 0, 1) := by decide +kernel
theorem dL_all_126 : decode cL_all 126 = .ok (.istore_n 3, 1) := by decide +kernel
theorem dL_all_127 : decode cL_all 127 = .ok (.iload_n 3, 1) := by decide +kernel
theorem dL_all_128 : decode cL_all 128 = .ok (.aload_n 0, 1) := by decide +kernel
theorem dL_all_129 : decode cL_all 129 = .ok (.iconst 2, 1) := by decide +kernel
theorem dL_all_130 : decode cL_all 130 = .ok (.invokevirtual 110, 3) := by decide +kernel
theorem dL_all_133 : decode cL_all 133 = .ok (.if_icmp .ge 108, 3) := by decide +kernel
theorem dL_all_136 : decode cL_all 136 = .ok (.iconst 0, 1) := by decide +kernel
theorem dL_all_137 : decode cL_all 137 = .ok (.istore 4, 2) := by decide +kernel
theorem dL_all_139 : decode cL_all 139 = .ok (.iload 4, 2) := by decide +kernel
theorem dL_all_141 : decode cL_all 141 = .ok (.bipush 8, 2) := by decide +kernel
theorem dL_all_143 : decode cL_all 143 = .ok (.if_icmp .ge 24, 3) := by decide +kernel
theorem dL_all_146 : decode cL_all 146 = .ok (.ldc2_w 192, 3) := by decide +kernel
theorem dL_all_149 : decode cL_all 149 = .ok (.lload_n 1, 1) := by decide +kernel
theorem dL_all_150 : decode cL_all 150 = .ok (.lmul, 1) := by decide +kernel
theorem dL_all_151 : decode cL_all 151 = .ok (.aload_n 0, 1) := by decide +kernel
theorem dL_all_152 : decode cL_all 152 = .ok (.iload_n 3, 1) := by decide +kernel
theorem dL_all_153 : decode cL_all 153 = .ok (.iload 4, 2) := by decide +kernel
theorem dL_all_155 : decode cL_all 155 = .ok (.invokevirtual 120, 3) := by decide +kernel
theorem dL_all_158 : decode cL_all 158 = .ok (.i2l, 1) := by decide +kernel
theorem dL_all_159 : decode cL_all 159 = .ok (.ladd, 1) := by decide +kernel
theorem dL_all_160 : decode cL_all 160 = .ok (.lstore_n 1, 1) := by decide +kernel
theorem dL_all_161 : decode cL_all 161 = .ok (.iinc 4 1, 3) := by decide +kernel
theorem dL_all_164 : decode cL_all 164 = .ok (.goto (-25), 3) := by decide +kernel
theorem dL_all_167 : decode cL_all 167 = .ok (.iconst (-1), 1) := by decide +kernel
theorem dL_all_168 : decode cL_all 168 = .ok (.istore 4, 2) := by decide +kernel
theorem dL_all_170 : decode cL_all 170 = .ok (.iload 4, 2) := by decide +kernel
theorem dL_all_172 : decode cL_all 172 = .ok (.aload_n 0, 1) := by decide +kernel
theorem dL_all_173 : decode cL_all 173 = .ok (.iconst 0, 1) := by decide +kernel
theorem dL_all_174 : decode cL_all 174 = .ok (.invokevirtual 110, 3) := by decide +kernel
theorem dL_all_177 : decode cL_all 177 = .ok (.if_icmp .ge 24, 3) := by decide +kernel
theorem dL_all_180 : decode cL_all 180 = .ok (.ldc2_w 192, 3) := by decide +kernel
theorem dL_all_183 : decode cL_all 183 = .ok (.lload_n 1, 1) := by decide +kernel
theorem dL_all_184 : decode cL_all 184 = .ok (.lmul, 1) := by decide +kernel
theorem dL_all_185 : decode cL_all 185 = .ok (.aload_n 0, 1) := by decide +kernel
theorem dL_all_186 : decode cL_all 186 = .ok (.iload_n 3, 1) := by decide +kernel
theorem dL_all_187 : decode cL_all 187 = .ok (.iload 4, 2) := by decide +kernel
theorem dL_all_189 : decode cL_all 189 = .ok (.invokevirtual 125, 3) := by decide +kernel
theorem dL_all_192 : decode cL_all 192 = .ok (.i2l, 1) := by decide +kernel
theorem dL_all_193 : decode cL_all 193 = .ok (.ladd, 1) := by decide +kernel
theorem dL_all_194 : decode cL_all 194 = .ok (.lstore_n 1, 1) := by decide +kernel
theorem dL_all_195 : decode cL_all 195 = .ok (.iinc 4 1, 3) := by decide +kernel
theorem dL_all_198 : decode cL_all 198 = .ok (.goto (-28), 3) := by decide +kernel
theorem dL_all_201 : decode cL_all 201 = .ok (.iconst 0, 1) := by decide +kernel
theorem dL_all_202 : decode cL_all 202 = .ok (.istore 4, 2) := by decide +kernel
theorem dL_all_204 : decode cL_all 204 = .ok (.iload 4, 2) := by decide +kernel
theorem dL_all_206 : decode cL_all 206 = .ok (.aload_n 0, 1) := by decide +kernel
theorem dL_all_207 : decode cL_all 207 = .ok (.iconst 0, 1) := by decide +kernel
theorem dL_all_208 : decode cL_all 208 = .ok (.invokevirtual 110, 3) := by decide +kernel
theorem dL_all_211 : decode cL_all 211 = .ok (.if_icmp .ge 24, 3) := by decide +kernel
theorem dL_all_214 : decode cL_all 214 = .ok (.ldc2_w 192, 3) := by decide +kernel
theorem dL_all_217 : decode cL_all 217 = .ok (.lload_n 1, 1) := by decide +kernel
theorem dL_all_218 : decode cL_all 218 = .ok (.lmul, 1) := by decide +kernel
theorem dL_all_219 : decode cL_all 219 = .ok (.aload_n 0, 1) := by decide +kernel
theorem dL_all_220 : decode cL_all 220 = .ok (.iload 4, 2) := by decide +kernel
theorem dL_all_222 : decode cL_all 222 = .ok (.iload_n 3, 1) := by decide +kernel
theorem dL_all_223 : decode cL_all 223 = .ok (.invokevirtual 115, 3) := by decide +kernel
theorem dL_all_226 : decode cL_all 226 = .ok (.i2l, 1) := by decide +kernel
theorem dL_all_227 : decode cL_all 227 = .ok (.ladd, 1) := by decide +kernel
theorem dL_all_228 : decode cL_all 228 = .ok (.lstore_n 1, 1) := by decide +kernel
theorem dL_all_229 : decode cL_all 229 = .ok (.iinc 4 1, 3) := by decide +kernel
theorem dL_all_232 : decode cL_all 232 = .ok (.goto (-28), 3) := by decide +kernel
theorem dL_all_235 : decode cL_all 235 = .ok (.iinc 3 1, 3) := by decide +kernel
theorem dL_all_238 : decode cL_all 238 = .ok (.goto (-111), 3) := by decide +kernel
theorem dL_all_241 : decode cL_all 241 = .ok (.iconst 0, 1) := by decide +kernel
theorem dL_all_242 : decode cL_all 242 = .ok (.istore_n 3, 1) := by decide +kernel
theorem dL_all_243 : decode cL_all 243 = .ok (.iload_n 3, 1) := by decide +kernel
theorem dL_all_244 : decode cL_all 244 = .ok (.iconst 5, 1) := by decide +kernel
theorem dL_all_245 : decode cL_all 245 = .ok (.if_icmp .ge 22, 3) := by decide +kernel
theorem dL_all_248 : decode cL_all 248 = .ok (.ldc2_w 192, 3) := by decide +kernel
theorem dL_all_251 : decode cL_all 251 = .ok (.lload_n 1, 1) := by decide +kernel
theorem dL_all_252 : decode cL_all 252 = .ok (.lmul, 1) := by decide +kernel
theorem dL_all_253 : decode cL_all 253 = .ok (.aload_n 0, 1) := by decide +kernel
theorem dL_all_254 : decode cL_all 254 = .ok (.iload_n 3, 1) := by decide +kernel
theorem dL_all_255 : decode cL_all 255 = .ok (.invokevirtual 134, 3) := by decide +kernel
theorem dL_all_258 : decode cL_all 258 = .ok (.i2l, 1) := by decide +kernel
theorem dL_all_259 : decode cL_all 259 = .ok (.ladd, 1) := by decide +kernel
theorem dL_all_260 : decode cL_all 260 = .ok (.lstore_n 1, 1) := by decide +kernel
theorem dL_all_261 : decode cL_all 261 = .ok (.iinc 3 1, 3) := by decide +kernel
theorem dL_all_264 : decode cL_all 264 = .ok (.goto (-21), 3) := by decide +kernel
theorem dL_all_267 : decode cL_all 267 = .ok (.lload_n 1, 1) := by decide +kernel
theorem dL_all_268 : decode cL_all 268 = .ok (.lreturn, 1) := by decide +kernel
theorem dL_isSound_0 : decode cL_isSound 0 = .ok (.iconst 0, 1) := by decide +kernel
theorem dL_isSound_1 : decode cL_isSound 1 = .ok (.istore_n 1, 1) := by decide +kernel
theorem dL_isSound_2 : decode cL_isSound 2 = .ok (.iconst 0, 1) := by decide +kernel
theorem dL_isSound_3 : decode cL_isSound 3 = .ok (.istore_n 2, 1) := by decide +kernel
theorem dL_isSound_4 : decode cL_isSound 4 = .ok (.iload_n 2, 1) := by decide +kernel
theorem dL_isSound_5 : decode cL_isSound 5 = .ok (.aload_n 0, 1) := by decide +kernel
theorem dL_isSound_6 : decode cL_isSound 6 = .ok (.iconst 1, 1) := by decide +kernel
theorem dL_isSound_7 : decode cL_isSound 7 = .ok (.invokevirtual 110, 3) := by decide +kernel
theorem dL_isSound_10 : decode cL_isSound 10 = .ok (.if_icmp .ge 116, 3) := by decide +kernel
theorem dL_isSound_13 : decode cL_isSound 13 = .ok (.iconst 0, 1) := by decide +kernel
theorem dL_isSound_14 : decode cL_isSound 14 = .ok (.istore_n 3, 1) := by decide +kernel
theorem dL_isSound_15 : decode cL_isSound 15 = .ok (.iconst 0, 1) := by decide +kernel
theorem dL_isSound_16 : decode cL_isSound 16 = .ok (.istore 4, 2) := by decide +kernel
theorem dL_isSound_18 : decode cL_isSound 18 = .ok (.iload 4, 2) := by decide +kernel
theorem dL_isSound_20 : decode cL_isSound 20 = .ok (.bipush 7, 2) := by decide +kernel
theorem dL_isSound_22 : decode cL_isSound 22 = .ok (.if_icmp .ge 63, 3) := by decide +kernel
theorem dL_isSound_25 : decode cL_isSound 25 = .ok (.aload_n 0, 1) := by decide +kernel
theorem dL_isSound_26 : decode cL_isSound 26 = .ok (.iload_n 2, 1) := by decide +kernel
theorem dL_isSound_27 : decode cL_isSound 27 = .ok (.iload 4, 2) := by decide +kernel
theorem dL_isSound_29 : decode cL_isSound 29 = .ok (.invokevirtual 194, 3) := by decide +kernel
theorem dL_isSound_32 : decode cL_isSound 32 = .ok (.istore 5, 2) := by decide +kernel
theorem dL_isSound_34 : decode cL_isSound 34 = .ok (.iload 5, 2) := by decide +kernel
theorem dL_isSound_36 : decode cL_isSound 36 = .ok (.ifCond .lt 36, 3) := by decide +kernel
theorem dL_isSound_39 : decode cL_isSound 39 = .ok (.iload 5, 2) := by decide +kernel
theorem dL_isSound_41 : decode cL_isSound 41 = .ok (.aload_n 0, 1) := by decide +kernel
theorem dL_isSound_42 : decode cL_isSound 42 = .ok (.iload_n 2, 1) := by decide +kernel
theorem dL_isSound_43 : decode cL_isSound 43 = .ok (.iconst 1, 1) := by decide +kernel
theorem dL_isSound_44 : decode cL_isSound 44 = .ok (.invokevirtual 108, 3) := by decide +kernel
theorem dL_isSound_47 : decode cL_isSound 47 = .ok (.aload_n 0, 1) := by decide +kernel
theorem dL_isSound_48 : decode cL_isSound 48 = .ok (.iload_n 2, 1) := by decide +kernel
theorem dL_isSound_49 : decode cL_isSound 49 = .ok (.iconst 2, 1) := by decide +kernel
theorem dL_isSound_50 : decode cL_isSound 50 = .ok (.invokevirtual 108, 3) := by decide +kernel
theorem dL_isSound_53 : decode cL_isSound 53 = .ok (.imul, 1) := by decide +kernel
theorem dL_isSound_54 : decode cL_isSound 54 = .ok (.if_icmp .gt 18, 3) := by decide +kernel
theorem dL_isSound_57 : decode cL_isSound 57 = .ok (.aload_n 0, 1) := by decide +kernel
theorem dL_isSound_58 : decode cL_isSound 58 = .ok (.iload_n 2, 1) := by decide +kernel
theorem dL_isSound_59 : decode cL_isSound 59 = .ok (.iload 4, 2) := by decide +kernel
theorem dL_isSound_61 : decode cL_isSound 61 = .ok (.invokevirtual 197, 3) := by decide +kernel
theorem dL_isSound_64 : decode cL_isSound 64 = .ok (.ifCond .ge 10, 3) := by decide +kernel
theorem dL_isSound_67 : decode cL_isSound 67 = .ok (.iload 5, 2) := by decide +kernel
theorem dL_isSound_69 : decode cL_isSound 69 = .ok (.ifCond .eq 5, 3) := by decide +kernel
theorem dL_isSound_72 : decode cL_isSound 72 = .ok (.iconst 0, 1) := by decide +kernel
theorem dL_isSound_73 : decode cL_isSound 73 = .ok (.ireturn, 1) := by decide +kernel
theorem dL_isSound_74 : decode cL_isSound 74 = .ok (.iload_n 3, 1) := by decide +kernel
theorem dL_isSound_75 : decode cL_isSound 75 = .ok (.iload 5, 2) := by decide +kernel
theorem dL_isSound_77 : decode cL_isSound 77 = .ok (.iadd, 1) := by decide +kernel
theorem dL_isSound_78 : decode cL_isSound 78 = .ok (.istore_n 3, 1) := by decide +kernel
theorem dL_isSound_79 : decode cL_isSound 79 = .ok (.iinc 4 1, 3) := by decide +kernel
theorem dL_isSound_82 : decode cL_isSound 82 = .ok (.goto (-64), 3) := by decide +kernel
theorem dL_isSound_85 : decode cL_isSound 85 = .ok (.iload_n 3, 1) := by decide +kernel
theorem dL_isSound_86 : decode cL_isSound 86 = .ok (.aload_n 0, 1) := by decide +kernel
theorem dL_isSound_87 : decode cL_isSound 87 = .ok (.aload_n 0, 1) := by decide +kernel
theorem dL_isSound_88 : decode cL_isSound 88 = .ok (.iload_n 2, 1) := by decide +kernel
theorem dL_isSound_89 : decode cL_isSound 89 = .ok (.iconst 0, 1) := by decide +kernel
theorem dL_isSound_90 : decode cL_isSound 90 = .ok (.invokevirtual 108, 3) := by decide +kernel
theorem dL_isSound_93 : decode cL_isSound 93 = .ok (.iconst 0, 1) := by decide +kernel
theorem dL_isSound_94 : decode cL_isSound 94 = .ok (.invokevirtual 113, 3) := by decide +kernel
theorem dL_isSound_97 : decode cL_isSound 97 = .ok (.imul, 1) := by decide +kernel
theorem dL_isSound_98 : decode cL_isSound 98 = .ok (.aload_n 0, 1) := by decide +kernel
theorem dL_isSound_99 : decode cL_isSound 99 = .ok (.iload_n 2, 1) := by decide +kernel
theorem dL_isSound_100 : decode cL_isSound 100 = .ok (.bipush 8, 2) := by decide +kernel
theorem dL_isSound_102 : decode cL_isSound 102 = .ok (.invokevirtual 108, 3) := by decide +kernel
theorem dL_isSound_105 : decode cL_isSound 105 = .ok (.if_icmp .eq 5, 3) := by decide +kernel
theorem dL_isSound_108 : decode cL_isSound 108 = .ok (.iconst 0, 1) := by decide +kernel
theorem dL_isSound_109 : decode cL_isSound 109 = .ok (.ireturn, 1) := by decide +kernel
theorem dL_isSound_110 : decode cL_isSound 110 = .ok (.iload_n 1, 1) := by decide +kernel
theorem dL_isSound_111 : decode cL_isSound 111 = .ok (.aload_n 0, 1) := by decide +kernel
theorem dL_isSound_112 : decode cL_isSound 112 = .ok (.iload_n 2, 1) := by decide +kernel
theorem dL_isSound_113 : decode cL_isSound 113 = .ok (.bipush 8, 2) := by decide +kernel
theorem dL_isSound_115 : decode cL_isSound 115 = .ok (.invokevirtual 108, 3) := by decide +kernel
theorem dL_isSound_118 : decode cL_isSound 118 = .ok (.iadd, 1) := by decide +kernel
theorem dL_isSound_119 : decode cL_isSound 119 = .ok (.istore_n 1, 1) := by decide +kernel
theorem dL_isSound_120 : decode cL_isSound 120 = .ok (.iinc 2 1, 3) := by decide +kernel
theorem dL_isSound_123 : decode cL_isSound 123 = .ok (.goto (-119), 3) := by decide +kernel
theorem dL_isSound_126 : decode cL_isSound 126 = .ok (.iconst 0, 1) := by decide +kernel
theorem dL_isSound_127 : decode cL_isSound 127 = .ok (.istore_n 2, 1) := by decide +kernel
theorem dL_isSound_128 : decode cL_isSound 128 = .ok (.iconst 0, 1) := by decide +kernel
theorem dL_isSound_129 : decode cL_isSound 129 = .ok (.istore_n 3, 1) := by decide +kernel
theorem dL_isSound_130 : decode cL_isSound 130 = .ok (.iload_n 3, 1) := by decide +kernel
theorem dL_isSound_131 : decode cL_isSound 131 = .ok (.aload_n 0, 1) := by decide +kernel
theorem dL_isSound_132 : decode cL_isSound 132 = .ok (.iconst 0, 1) := by decide +kernel
theorem dL_isSound_133 : decode cL_isSound 133 = .ok (.invokevirtual 110, 3) := by decide +kernel
theorem dL_isSound_136 : decode cL_isSound 136 = .ok (.if_icmp .ge 191, 3) := by decide +kernel
theorem dL_isSound_139 : decode cL_isSound 139 = .ok (.iconst 0, 1) := by decide +kernel
theorem dL_isSound_140 : decode cL_isSound 140 = .ok (.istore 4, 2) := by decide +kernel
theorem dL_isSound_142 : decode cL_isSound 142 = .ok (.iconst 0, 1) := by decide +kernel
theorem dL_isSound_143 : decode cL_isSound 143 = .ok (.istore 5, 2) := by decide +kernel
theorem dL_isSound_145 : decode cL_isSound 145 = .ok (.iload 5, 2) := by decide +kernel
theorem dL_isSound_147 : decode cL_isSound 147 = .ok (.aload_n 0, 1) := by decide +kernel
theorem dL_isSound_148 : decode cL_isSound 148 = .ok (.iconst 2, 1) := by decide +kernel
theorem dL_isSound_149 : decode cL_isSound 149 = .ok (.invokevirtual 110, 3) := by decide +kernel
theorem dL_isSound_152 : decode cL_isSound 152 = .ok (.if_icmp .ge 131, 3) := by decide +kernel
theorem dL_isSound_155 : decode cL_isSound 155 = .ok (.iload 4, 2) := by decide +kernel
theorem dL_isSound_157 : decode cL_isSound 157 = .ok (.aload_n 0, 1) := by decide +kernel
theorem dL_isSound_158 : decode cL_isSound 158 = .ok (.iload_n 3, 1) := by decide +kernel
theorem dL_isSound_159 : decode cL_isSound 159 = .ok (.iload 5, 2) := by decide +kernel
theorem dL_isSound_161 : decode cL_isSound 161 = .ok (.invokevirtual 200, 3) := by decide +kernel
theorem dL_isSound_164 : decode cL_isSound 164 = .ok (.iadd, 1) := by decide +kernel
theorem dL_isSound_165 : decode cL_isSound 165 = .ok (.istore 4, 2) := by decide +kernel
theorem dL_isSound_167 : decode cL_isSound 167 = .ok (.iconst 0, 1) := by decide +kernel
theorem dL_isSound_168 : decode cL_isSound 168 = .ok (.istore 6, 2) := by decide +kernel
theorem dL_isSound_170 : decode cL_isSound 170 = .ok (.iload 6, 2) := by decide +kernel
theorem dL_isSound_172 : decode cL_isSound 172 = .ok (.bipush 7, 2) := by decide +kernel
theorem dL_isSound_174 : decode cL_isSound 174 = .ok (.if_icmp .ge 103, 3) := by decide +kernel
theorem dL_isSound_177 : decode cL_isSound 177 = .ok (.iconst 0, 1) := by decide +kernel
theorem dL_isSound_178 : decode cL_isSound 178 = .ok (.istore 7, 2) := by decide +kernel
theorem dL_isSound_180 : decode cL_isSound 180 = .ok (.iconst 0, 1) := by decide +kernel
theorem dL_isSound_181 : decode cL_isSound 181 = .ok (.istore 8, 2) := by decide +kernel
theorem dL_isSound_183 : decode cL_isSound 183 = .ok (.iconst 0, 1) := by decide +kernel
theorem dL_isSound_184 : decode cL_isSound 184 = .ok (.istore 9, 2) := by decide +kernel
theorem dL_isSound_186 : decode cL_isSound 186 = .ok (.iload 9, 2) := by decide +kernel
theorem dL_isSound_188 : decode cL_isSound 188 = .ok (.aload_n 0, 1) := by decide +kernel
theorem dL_isSound_189 : decode cL_isSound 189 = .ok (.iconst 1, 1) := by decide +kernel
theorem dL_isSound_190 : decode cL_isSound 190 = .ok (.invokevirtual 110, 3) := by decide +kernel
theorem dL_isSound_193 : decode cL_isSound 193 = .ok (.if_icmp .ge 52, 3) := by decide +kernel
theorem dL_isSound_196 : decode cL_isSound 196 = .ok (.aload_n 0, 1) := by decide +kernel
theorem dL_isSound_197 : decode cL_isSound 197 = .ok (.iload 9, 2) := by decide +kernel
theorem dL_isSound_199 : decode cL_isSound 199 = .ok (.iconst 0, 1) := by decide +kernel
theorem dL_isSound_200 : decode cL_isSound 200 = .ok (.invokevirtual 108, 3) := by decide +kernel
theorem dL_isSound_203 : decode cL_isSound 203 = .ok (.iload_n 3, 1) := by decide +kernel
theorem dL_isSound_204 : decode cL_isSound 204 = .ok (.if_icmp .ne 35, 3) := by decide +kernel
theorem dL_isSound_207 : decode cL_isSound 207 = .ok (.aload_n 0, 1) := by decide +kernel
theorem dL_isSound_208 : decode cL_isSound 208 = .ok (.iload 9, 2) := by decide +kernel
theorem dL_isSound_210 : decode cL_isSound 210 = .ok (.iload 6, 2) := by decide +kernel
theorem dL_isSound_212 : decode cL_isSound 212 = .ok (.invokevirtual 197, 3) := by decide +kernel
theorem dL_isSound_215 : decode cL_isSound 215 = .ok (.iload 5, 2) := by decide +kernel
theorem dL_isSound_217 : decode cL_isSound 217 = .ok (.if_icmp .eq 6, 3) := by decide +kernel
theorem dL_isSound_220 : decode cL_isSound 220 = .ok (.goto 19, 3) := by decide +kernel
theorem dL_isSound_223 : decode cL_isSound 223 = .ok (.iinc 7 1, 3) := by decide +kernel
theorem dL_isSound_226 : decode cL_isSound 226 = .ok (.iload 8, 2) := by decide +kernel
theorem dL_isSound_228 : decode cL_isSound 228 = .ok (.aload_n 0, 1) := by decide +kernel
theorem dL_isSound_229 : decode cL_isSound 229 = .ok (.iload 9, 2) := by decide +kernel
theorem dL_isSound_231 : decode cL_isSound 231 = .ok (.iload 6, 2) := by decide +kernel
theorem dL_isSound_233 : decode cL_isSound 233 = .ok (.invokevirtual 194, 3) := by decide +kernel
theorem dL_isSound_236 : decode cL_isSound 236 = .ok (.iadd, 1) := by decide +kernel
theorem dL_isSound_237 : decode cL_isSound 237 = .ok (.istore 8, 2) := by decide +kernel
theorem dL_isSound_239 : decode cL_isSound 239 = .ok (.iinc 9 1, 3) := by decide +kernel
theorem dL_isSound_242 : decode cL_isSound 242 = .ok (.goto (-56), 3) := by decide +kernel
theorem dL_isSound_245 : decode cL_isSound 245 = .ok (.iload 7, 2) := by decide +kernel
theorem dL_isSound_247 : decode cL_isSound 247 = .ok (.aload_n 0, 1) := by decide +kernel
theorem dL_isSound_248 : decode cL_isSound 248 = .ok (.iload 5, 2) := by decide +kernel
theorem dL_isSound_250 : decode cL_isSound 250 = .ok (.iload_n 3, 1) := by decide +kernel
theorem dL_isSound_251 : decode cL_isSound 251 = .ok (.invokevirtual 125, 3) := by decide +kernel
theorem dL_isSound_254 : decode cL_isSound 254 = .ok (.if_icmp .gt 15, 3) := by decide +kernel
theorem dL_isSound_257 : decode cL_isSound 257 = .ok (.iload 8, 2) := by decide +kernel
theorem dL_isSound_259 : decode cL_isSound 259 = .ok (.aload_n 0, 1) := by decide +kernel
theorem dL_isSound_260 : decode cL_isSound 260 = .ok (.iload 5, 2) := by decide +kernel
theorem dL_isSound_262 : decode cL_isSound 262 = .ok (.iconst 5, 1) := by decide +kernel
theorem dL_isSound_263 : decode cL_isSound 263 = .ok (.invokevirtual 120, 3) := by decide +kernel
theorem dL_isSound_266 : decode cL_isSound 266 = .ok (.if_icmp .le 5, 3) := by decide +kernel
theorem dL_isSound_269 : decode cL_isSound 269 = .ok (.iconst 0, 1) := by decide +kernel
theorem dL_isSound_270 : decode cL_isSound 270 = .ok (.ireturn, 1) := by decide +kernel
theorem dL_isSound_271 : decode cL_isSound 271 = .ok (.iinc 6 1, 3) := by decide +kernel
theorem dL_isSound_274 : decode cL_isSound 274 = .ok (.goto (-104), 3) := by decide +kernel
theorem dL_isSound_277 : decode cL_isSound 277 = .ok (.iinc 5 1, 3) := by decide +kernel
theorem dL_isSound_280 : decode cL_isSound 280 = .ok (.goto (-135), 3) := by decide +kernel
theorem dL_isSound_283 : decode cL_isSound 283 = .ok (.iload 4, 2) := by decide +kernel
theorem dL_isSound_285 : decode cL_isSound 285 = .ok (.aload_n 0, 1) := by decide +kernel
theorem dL_isSound_286 : decode cL_isSound 286 = .ok (.iload_n 3, 1) := by decide +kernel
theorem dL_isSound_287 : decode cL_isSound 287 = .ok (.iconst 4, 1) := by decide +kernel
theorem dL_isSound_288 : decode cL_isSound 288 = .ok (.invokevirtual 113, 3) := by decide +kernel
theorem dL_isSound_291 : decode cL_isSound 291 = .ok (.if_icmp .ne 19, 3) := by decide +kernel
theorem dL_isSound_294 : decode cL_isSound 294 = .ok (.iload 4, 2) := by decide +kernel
theorem dL_isSound_296 : decode cL_isSound 296 = .ok (.ifCond .lt 14, 3) := by decide +kernel
theorem dL_isSound_299 : decode cL_isSound 299 = .ok (.iload 4, 2) := by decide +kernel
theorem dL_isSound_301 : decode cL_isSound 301 = .ok (.aload_n 0, 1) := by decide +kernel
theorem dL_isSound_302 : decode cL_isSound 302 = .ok (.iload_n 3, 1) := by decide +kernel
theorem dL_isSound_303 : decode cL_isSound 303 = .ok (.iconst 3, 1) := by decide +kernel
theorem dL_isSound_304 : decode cL_isSound 304 = .ok (.invokevirtual 113, 3) := by decide +kernel
theorem dL_isSound_307 : decode cL_isSound 307 = .ok (.if_icmp .le 5, 3) := by decide +kernel
theorem dL_isSound_310 : decode cL_isSound 310 = .ok (.iconst 0, 1) := by decide +kernel
theorem dL_isSound_311 : decode cL_isSound 311 = .ok (.ireturn, 1) := by decide +kernel
theorem dL_isSound_312 : decode cL_isSound 312 = .ok (.iload_n 2, 1) := by decide +kernel
theorem dL_isSound_313 : decode cL_isSound 313 = .ok (.aload_n 0, 1) := by decide +kernel
theorem dL_isSound_314 : decode cL_isSound 314 = .ok (.iload_n 3, 1) := by decide +kernel
theorem dL_isSound_315 : decode cL_isSound 315 = .ok (.iconst 3, 1) := by decide +kernel
theorem dL_isSound_316 : decode cL_isSound 316 = .ok (.invokevirtual 113, 3) := by decide +kernel
theorem dL_isSound_319 : decode cL_isSound 319 = .ok (.iadd, 1) := by decide +kernel
theorem dL_isSound_320 : decode cL_isSound 320 = .ok (.istore_n 2, 1) := by decide +kernel
theorem dL_isSound_321 : decode cL_isSound 321 = .ok (.iinc 3 1, 3) := by decide +kernel
theorem dL_isSound_324 : decode cL_isSound 324 = .ok (.goto (-194), 3) := by decide +kernel
theorem dL_isSound_327 : decode cL_isSound 327 = .ok (.iconst 0, 1) := by decide +kernel
theorem dL_isSound_328 : decode cL_isSound 328 = .ok (.istore_n 3, 1) := by decide +kernel
theorem dL_isSound_329 : decode cL_isSound 329 = .ok (.iconst 0, 1) := by decide +kernel
theorem dL_isSound_330 : decode cL_isSound 330 = .ok (.istore 4, 2) := by decide +kernel
theorem dL_isSound_332 : decode cL_isSound 332 = .ok (.iload 4, 2) := by decide +kernel
theorem dL_isSound_334 : decode cL_isSound 334 = .ok (.aload_n 0, 1) := by decide +kernel
theorem dL_isSound_335 : decode cL_isSound 335 = .ok (.iconst 2, 1) := by decide +kernel
theorem dL_isSound_336 : decode cL_isSound 336 = .ok (.invokevirtual 110, 3) := by decide +kernel
theorem dL_isSound_339 : decode cL_isSound 339 = .ok (.if_icmp .ge 20, 3) := by decide +kernel
theorem dL_isSound_342 : decode cL_isSound 342 = .ok (.iload_n 3, 1) := by decide +kernel
theorem dL_isSound_343 : decode cL_isSound 343 = .ok (.aload_n 0, 1) := by decide +kernel
theorem dL_isSound_344 : decode cL_isSound 344 = .ok (.iload 4, 2) := by decide +kernel
theorem dL_isSound_346 : decode cL_isSound 346 = .ok (.bipush 6, 2) := by decide +kernel
theorem dL_isSound_348 : decode cL_isSound 348 = .ok (.invokevirtual 120, 3) := by decide +kernel
theorem dL_isSound_351 : decode cL_isSound 351 = .ok (.iadd, 1) := by decide +kernel
theorem dL_isSound_352 : decode cL_isSound 352 = .ok (.istore_n 3, 1) := by decide +kernel
theorem dL_isSound_353 : decode cL_isSound 353 = .ok (.iinc 4 1, 3) := by decide +kernel
theorem dL_isSound_356 : decode cL_isSound 356 = .ok (.goto (-24), 3) := by decide +kernel
theorem dL_isSound_359 : decode cL_isSound 359 = .ok (.iload_n 1, 1) := by decide +kernel
theorem dL_isSound_360 : decode cL_isSound 360 = .ok (.iload_n 2, 1) := by decide +kernel
theorem dL_isSound_361 : decode cL_isSound 361 = .ok (.if_icmp .ne 8, 3) := by decide +kernel
theorem dL_isSound_364 : decode cL_isSound 364 = .ok (.iload_n 3, 1) := by decide +kernel
theorem dL_isSound_365 : decode cL_isSound 365 = .ok (.iload_n 2, 1) := by decide +kernel
theorem dL_isSound_366 : decode cL_isSound 366 = .ok (.if_icmp .eq 5, 3) := by decide +kernel
theorem dL_isSound_369 : decode cL_isSound 369 = .ok (.iconst 0, 1) := by decide +kernel
theorem dL_isSound_370 : decode cL_isSound 370 = .ok (.ireturn, 1) := by decide +kernel
theorem dL_isSound_371 : decode cL_isSound 371 = .ok (.aload_n 0, 1) := by decide +kernel
theorem dL_isSound_372 : decode cL_isSound 372 = .ok (.iconst 4, 1) := by decide +kernel
theorem dL_isSound_373 : decode cL_isSound 373 = .ok (.invokevirtual 134, 3) := by decide +kernel
theorem dL_isSound_376 : decode cL_isSound 376 = .ok (.aload_n 0, 1) := by decide +kernel
theorem dL_isSound_377 : decode cL_isSound 377 = .ok (.iconst 0, 1) := by decide +kernel
theorem dL_isSound_378 : decode cL_isSound 378 = .ok (.invokevirtual 134, 3) := by decide +kernel
theorem dL_isSound_381 : decode cL_isSound 381 = .ok (.aload_n 0, 1) := by decide +kernel
theorem dL_isSound_382 : decode cL_isSound 382 = .ok (.iconst 1, 1) := by decide +kernel
theorem dL_isSound_383 : decode cL_isSound 383 = .ok (.invokevirtual 134, 3) := by decide +kernel
theorem dL_isSound_386 : decode cL_isSound 386 = .ok (.isub, 1) := by decide +kernel
theorem dL_isSound_387 : decode cL_isSound 387 = .ok (.aload_n 0, 1) := by decide +kernel
theorem dL_isSound_388 : decode cL_isSound 388 = .ok (.iconst 2, 1) := by decide +kernel
theorem dL_isSound_389 : decode cL_isSound 389 = .ok (.invokevirtual 134, 3) := by decide +kernel
theorem dL_isSound_392 : decode cL_isSound 392 = .ok (.isub, 1) := by decide +kernel
theorem dL_isSound_393 : decode cL_isSound 393 = .ok (.aload_n 0, 1) := by decide +kernel
theorem dL_isSound_394 : decode cL_isSound 394 = .ok (.iconst 3, 1) := by decide +kernel
theorem dL_isSound_395 : decode cL_isSound 395 = .ok (.invokevirtual 134, 3) := by decide +kernel
theorem dL_isSound_398 : decode cL_isSound 398 = .ok (.isub, 1) := by decide +kernel
theorem dL_isSound_399 : decode cL_isSound 399 = .ok (.if_icmp .ne 14, 3) := by decide +kernel
theorem dL_isSound_402 : decode cL_isSound 402 = .ok (.aload_n 0, 1) := by decide +kernel
theorem dL_isSound_403 : decode cL_isSound 403 = .ok (.invokestatic 203, 3) := by decide +kernel
theorem dL_isSound_406 : decode cL_isSound 406 = .ok (.ifCond .eq 7, 3) := by decide +kernel
theorem dL_isSound_409 : decode cL_isSound 409 = .ok (.iconst 1, 1) := by decide +kernel
theorem dL_isSound_410 : decode cL_isSound 410 = .ok (.goto 4, 3) := by decide +kernel
theorem dL_isSound_413 : decode cL_isSound 413 = .ok (.iconst 0, 1) := by decide +kernel
theorem dL_isSound_414 : decode cL_isSound 414 = .ok (.ireturn, 1) := by decide +kernel
theorem dL_areRanked_0 : decode cL_areRanked 0 = .ok (.iconst 1, 1) := by decide +kernel
theorem dL_areRanked_1 : decode cL_areRanked 1 = .ok (.istore_n 1, 1) := by decide +kernel
theorem dL_areRanked_2 : decode cL_areRanked 2 = .ok (.iload_n 1, 1) := by decide +kernel
theorem dL_areRanked_3 : decode cL_areRanked 3 = .ok (.aload_n 0, 1) := by decide +kernel
theorem dL_areRanked_4 : decode cL_areRanked 4 = .ok (.iconst 2, 1) := by decide +kernel
theorem dL_areRanked_5 : decode cL_areRanked 5 = .ok (.invokevirtual 110, 3) := by decide +kernel
theorem dL_areRanked_8 : decode cL_areRanked 8 = .ok (.if_icmp .ge 73, 3) := by decide +kernel
theorem dL_areRanked_11 : decode cL_areRanked 11 = .ok (.aload_n 0, 1) := by decide +kernel
theorem dL_areRanked_12 : decode cL_areRanked 12 = .ok (.iload_n 1, 1) := by decide +kernel
theorem dL_areRanked_13 : decode cL_areRanked 13 = .ok (.iconst 1, 1) := by decide +kernel
theorem dL_areRanked_14 : decode cL_areRanked 14 = .ok (.isub, 1) := by decide +kernel
theorem dL_areRanked_15 : decode cL_areRanked 15 = .ok (.invokevirtual 207, 3) := by decide +kernel
theorem dL_areRanked_18 : decode cL_areRanked 18 = .ok (.istore_n 2, 1) := by decide +kernel
theorem dL_areRanked_19 : decode cL_areRanked 19 = .ok (.aload_n 0, 1) := by decide +kernel
theorem dL_areRanked_20 : decode cL_areRanked 20 = .ok (.iload_n 1, 1) := by decide +kernel
theorem dL_areRanked_21 : decode cL_areRanked 21 = .ok (.invokevirtual 207, 3) := by decide +kernel
theorem dL_areRanked_24 : decode cL_areRanked 24 = .ok (.istore_n 3, 1) := by decide +kernel
theorem dL_areRanked_25 : decode cL_areRanked 25 = .ok (.aload_n 0, 1) := by decide +kernel
theorem dL_areRanked_26 : decode cL_areRanked 26 = .ok (.iload_n 2, 1) := by decide +kernel
theorem dL_areRanked_27 : decode cL_areRanked 27 = .ok (.bipush 6, 2) := by decide +kernel
theorem dL_areRanked_29 : decode cL_areRanked 29 = .ok (.invokevirtual 120, 3) := by decide +kernel
theorem dL_areRanked_32 : decode cL_areRanked 32 = .ok (.aload_n 0, 1) := by decide +kernel
theorem dL_areRanked_33 : decode cL_areRanked 33 = .ok (.iload_n 2, 1) := by decide +kernel
theorem dL_areRanked_34 : decode cL_areRanked 34 = .ok (.bipush 7, 2) := by decide +kernel
theorem dL_areRanked_36 : decode cL_areRanked 36 = .ok (.invokevirtual 120, 3) := by decide +kernel
theorem dL_areRanked_39 : decode cL_areRanked 39 = .ok (.iadd, 1) := by decide +kernel
theorem dL_areRanked_40 : decode cL_areRanked 40 = .ok (.aload_n 0, 1) := by decide +kernel
theorem dL_areRanked_41 : decode cL_areRanked 41 = .ok (.iload_n 3, 1) := by decide +kernel
theorem dL_areRanked_42 : decode cL_areRanked 42 = .ok (.bipush 6, 2) := by decide +kernel
theorem dL_areRanked_44 : decode cL_areRanked 44 = .ok (.invokevirtual 120, 3) := by decide +kernel
theorem dL_areRanked_47 : decode cL_areRanked 47 = .ok (.isub, 1) := by decide +kernel
theorem dL_areRanked_48 : decode cL_areRanked 48 = .ok (.aload_n 0, 1) := by decide +kernel
theorem dL_areRanked_49 : decode cL_areRanked 49 = .ok (.iload_n 3, 1) := by decide +kernel
theorem dL_areRanked_50 : decode cL_areRanked 50 = .ok (.bipush 7, 2) := by decide +kernel
theorem dL_areRanked_52 : decode cL_areRanked 52 = .ok (.invokevirtual 120, 3) := by decide +kernel
theorem dL_areRanked_55 : decode cL_areRanked 55 = .ok (.isub, 1) := by decide +kernel
theorem dL_areRanked_56 : decode cL_areRanked 56 = .ok (.istore 4, 2) := by decide +kernel
theorem dL_areRanked_58 : decode cL_areRanked 58 = .ok (.iload 4, 2) := by decide +kernel
theorem dL_areRanked_60 : decode cL_areRanked 60 = .ok (.ifCond .lt 13, 3) := by decide +kernel
theorem dL_areRanked_63 : decode cL_areRanked 63 = .ok (.iload 4, 2) := by decide +kernel
theorem dL_areRanked_65 : decode cL_areRanked 65 = .ok (.ifCond .ne 10, 3) := by decide +kernel
theorem dL_areRanked_68 : decode cL_areRanked 68 = .ok (.iload_n 2, 1) := by decide +kernel
theorem dL_areRanked_69 : decode cL_areRanked 69 = .ok (.iload_n 3, 1) := by decide +kernel
theorem dL_areRanked_70 : decode cL_areRanked 70 = .ok (.if_icmp .le 5, 3) := by decide +kernel
theorem dL_areRanked_73 : decode cL_areRanked 73 = .ok (.iconst 0, 1) := by decide +kernel
theorem dL_areRanked_74 : decode cL_areRanked 74 = .ok (.ireturn, 1) := by decide +kernel
theorem dL_areRanked_75 : decode cL_areRanked 75 = .ok (.iinc 1 1, 3) := by decide +kernel
theorem dL_areRanked_78 : decode cL_areRanked 78 = .ok (.goto (-76), 3) := by decide +kernel
theorem dL_areRanked_81 : decode cL_areRanked 81 = .ok (.iconst 1, 1) := by decide +kernel
theorem dL_areRanked_82 : decode cL_areRanked 82 = .ok (.ireturn, 1) := by decide +kernel
theorem dL_isBest_0 : decode cL_isBest 0 = .ok (.aload_n 0, 1) := by decide +kernel
theorem dL_isBest_1 : decode cL_isBest 1 = .ok (.invokestatic 210, 3) := by decide +kernel
theorem dL_isBest_4 : decode cL_isBest 4 = .ok (.lstore_n 2, 1) := by decide +kernel
theorem dL_isBest_5 : decode cL_isBest 5 = .ok (.aload_n 0, 1) := by decide +kernel
theorem dL_isBest_6 : decode cL_isBest 6 = .ok (.iload_n 1, 1) := by decide +kernel
theorem dL_isBest_7 : decode cL_isBest 7 = .ok (.invokevirtual 214, 3) := by decide +kernel
theorem dL_isBest_10 : decode cL_isBest 10 = .ok (.istore 4, 2) := by decide +kernel
theorem dL_isBest_12 : decode cL_isBest 12 = .ok (.iconst 1, 1) := by decide +kernel
theorem dL_isBest_13 : decode cL_isBest 13 = .ok (.istore 5, 2) := by decide +kernel
theorem dL_isBest_15 : decode cL_isBest 15 = .ok (.iconst 0, 1) := by decide +kernel
theorem dL_isBest_16 : decode cL_isBest 16 = .ok (.istore 6, 2) := by decide +kernel
theorem dL_isBest_18 : decode cL_isBest 18 = .ok (.iload 6, 2) := by decide +kernel
theorem dL_isBest_20 : decode cL_isBest 20 = .ok (.aload_n 0, 1) := by decide +kernel
theorem dL_isBest_21 : decode cL_isBest 21 = .ok (.iconst 1, 1) := by decide +kernel
theorem dL_isBest_22 : decode cL_isBest 22 = .ok (.invokevirtual 110, 3) := by decide +kernel
theorem dL_isBest_25 : decode cL_isBest 25 = .ok (.if_icmp .ge 40, 3) := by decide +kernel
theorem dL_isBest_28 : decode cL_isBest 28 = .ok (.iload 5, 2) := by decide +kernel
theorem dL_isBest_30 : decode cL_isBest 30 = .ok (.aload_n 0, 1) := by decide +kernel
theorem dL_isBest_31 : decode cL_isBest 31 = .ok (.iload 6, 2) := by decide +kernel
theorem dL_isBest_33 : decode cL_isBest 33 = .ok (.iconst 0, 1) := by decide +kernel
theorem dL_isBest_34 : decode cL_isBest 34 = .ok (.invokevirtual 108, 3) := by decide +kernel
theorem dL_isBest_37 : decode cL_isBest 37 = .ok (.iload_n 1, 1) := by decide +kernel
theorem dL_isBest_38 : decode cL_isBest 38 = .ok (.if_icmp .ne 13, 3) := by decide +kernel
theorem dL_isBest_41 : decode cL_isBest 41 = .ok (.aload_n 0, 1) := by decide +kernel
theorem dL_isBest_42 : decode cL_isBest 42 = .ok (.iload 6, 2) := by decide +kernel
theorem dL_isBest_44 : decode cL_isBest 44 = .ok (.iconst 5, 1) := by decide +kernel
theorem dL_isBest_45 : decode cL_isBest 45 = .ok (.invokevirtual 108, 3) := by decide +kernel
theorem dL_isBest_48 : decode cL_isBest 48 = .ok (.ifCond .ge 7, 3) := by decide +kernel
theorem dL_isBest_51 : decode cL_isBest 51 = .ok (.iconst 1, 1) := by decide +kernel
theorem dL_isBest_52 : decode cL_isBest 52 = .ok (.goto 4, 3) := by decide +kernel
theorem dL_isBest_55 : decode cL_isBest 55 = .ok (.iconst 0, 1) := by decide +kernel
theorem dL_isBest_56 : decode cL_isBest 56 = .ok (.iand, 1) := by decide +kernel
theorem dL_isBest_57 : decode cL_isBest 57 = .ok (.istore 5, 2) := by decide +kernel
theorem dL_isBest_59 : decode cL_isBest 59 = .ok (.iinc 6 1, 3) := by decide +kernel
theorem dL_isBest_62 : decode cL_isBest 62 = .ok (.goto (-44), 3) := by decide +kernel
theorem dL_isBest_65 : decode cL_isBest 65 = .ok (.iload 5, 2) := by decide +kernel
theorem dL_isBest_67 : decode cL_isBest 67 = .ok (.ifCond .eq 23, 3) := by decide +kernel
theorem dL_isBest_70 : decode cL_isBest 70 = .ok (.aload_n 0, 1) := by decide +kernel
theorem dL_isBest_71 : decode cL_isBest 71 = .ok (.iload_n 1, 1) := by decide +kernel
theorem dL_isBest_72 : decode cL_isBest 72 = .ok (.iconst 3, 1) := by decide +kernel
theorem dL_isBest_73 : decode cL_isBest 73 = .ok (.invokevirtual 113, 3) := by decide +kernel
theorem dL_isBest_76 : decode cL_isBest 76 = .ok (.aload_n 0, 1) := by decide +kernel
theorem dL_isBest_77 : decode cL_isBest 77 = .ok (.iload_n 1, 1) := by decide +kernel
theorem dL_isBest_78 : decode cL_isBest 78 = .ok (.iconst 4, 1) := by decide +kernel
theorem dL_isBest_79 : decode cL_isBest 79 = .ok (.invokevirtual 113, 3) := by decide +kernel
theorem dL_isBest_82 : decode cL_isBest 82 = .ok (.isub, 1) := by decide +kernel
theorem dL_isBest_83 : decode cL_isBest 83 = .ok (.iload 4, 2) := by decide +kernel
theorem dL_isBest_85 : decode cL_isBest 85 = .ok (.if_icmp .le 5, 3) := by decide +kernel
theorem dL_isBest_88 : decode cL_isBest 88 = .ok (.iconst 0, 1) := by decide +kernel
theorem dL_isBest_89 : decode cL_isBest 89 = .ok (.ireturn, 1) := by decide +kernel
theorem dL_isBest_90 : decode cL_isBest 90 = .ok (.aload_n 0, 1) := by decide +kernel
theorem dL_isBest_91 : decode cL_isBest 91 = .ok (.iload_n 1, 1) := by decide +kernel
theorem dL_isBest_92 : decode cL_isBest 92 = .ok (.invokevirtual 158, 3) := by decide +kernel
theorem dL_isBest_95 : decode cL_isBest 95 = .ok (.istore 6, 2) := by decide +kernel
theorem dL_isBest_97 : decode cL_isBest 97 = .ok (.iload 6, 2) := by decide +kernel
theorem dL_isBest_99 : decode cL_isBest 99 = .ok (.ifCond .lt 31, 3) := by decide +kernel
theorem dL_isBest_102 : decode cL_isBest 102 = .ok (.aload_n 0, 1) := by decide +kernel
theorem dL_isBest_103 : decode cL_isBest 103 = .ok (.iload_n 1, 1) := by decide +kernel
theorem dL_isBest_104 : decode cL_isBest 104 = .ok (.iconst 3, 1) := by decide +kernel
theorem dL_isBest_105 : decode cL_isBest 105 = .ok (.invokevirtual 113, 3) := by decide +kernel
theorem dL_isBest_108 : decode cL_isBest 108 = .ok (.aload_n 0, 1) := by decide +kernel
theorem dL_isBest_109 : decode cL_isBest 109 = .ok (.iload_n 1, 1) := by decide +kernel
theorem dL_isBest_110 : decode cL_isBest 110 = .ok (.iconst 4, 1) := by decide +kernel
theorem dL_isBest_111 : decode cL_isBest 111 = .ok (.invokevirtual 113, 3) := by decide +kernel
theorem dL_isBest_114 : decode cL_isBest 114 = .ok (.isub, 1) := by decide +kernel
theorem dL_isBest_115 : decode cL_isBest 115 = .ok (.iload 4, 2) := by decide +kernel
theorem dL_isBest_117 : decode cL_isBest 117 = .ok (.if_icmp .ne 13, 3) := by decide +kernel
theorem dL_isBest_120 : decode cL_isBest 120 = .ok (.aload_n 0, 1) := by decide +kernel
theorem dL_isBest_121 : decode cL_isBest 121 = .ok (.iload_n 1, 1) := by decide +kernel
theorem dL_isBest_122 : decode cL_isBest 122 = .ok (.invokevirtual 214, 3) := by decide +kernel
theorem dL_isBest_125 : decode cL_isBest 125 = .ok (.iload 4, 2) := by decide +kernel
theorem dL_isBest_127 : decode cL_isBest 127 = .ok (.if_icmp .eq 5, 3) := by decide +kernel
theorem dL_isBest_130 : decode cL_isBest 130 = .ok (.iconst 0, 1) := by decide +kernel
theorem dL_isBest_131 : decode cL_isBest 131 = .ok (.ireturn, 1) := by decide +kernel
theorem dL_isBest_132 : decode cL_isBest 132 = .ok (.iconst 0, 1) := by decide +kernel
theorem dL_isBest_133 : decode cL_isBest 133 = .ok (.istore 7, 2) := by decide +kernel
theorem dL_isBest_135 : decode cL_isBest 135 = .ok (.iload 7, 2) := by decide +kernel
theorem dL_isBest_137 : decode cL_isBest 137 = .ok (.aload_n 0, 1) := by decide +kernel
theorem dL_isBest_138 : decode cL_isBest 138 = .ok (.iconst 1, 1) := by decide +kernel
theorem dL_isBest_139 : decode cL_isBest 139 = .ok (.invokevirtual 110, 3) := by decide +kernel
theorem dL_isBest_142 : decode cL_isBest 142 = .ok (.if_icmp .ge 38, 3) := by decide +kernel
theorem dL_isBest_145 : decode cL_isBest 145 = .ok (.aload_n 0, 1) := by decide +kernel
theorem dL_isBest_146 : decode cL_isBest 146 = .ok (.iload 7, 2) := by decide +kernel
theorem dL_isBest_148 : decode cL_isBest 148 = .ok (.iconst 0, 1) := by decide +kernel
theorem dL_isBest_149 : decode cL_isBest 149 = .ok (.invokevirtual 108, 3) := by decide +kernel
theorem dL_isBest_152 : decode cL_isBest 152 = .ok (.iload_n 1, 1) := by decide +kernel
theorem dL_isBest_153 : decode cL_isBest 153 = .ok (.if_icmp .ne 21, 3) := by decide +kernel
theorem dL_isBest_156 : decode cL_isBest 156 = .ok (.aload_n 0, 1) := by decide +kernel
theorem dL_isBest_157 : decode cL_isBest 157 = .ok (.iload 7, 2) := by decide +kernel
theorem dL_isBest_159 : decode cL_isBest 159 = .ok (.iconst 4, 1) := by decide +kernel
theorem dL_isBest_160 : decode cL_isBest 160 = .ok (.invokevirtual 108, 3) := by decide +kernel
theorem dL_isBest_163 : decode cL_isBest 163 = .ok (.aload_n 0, 1) := by decide +kernel
theorem dL_isBest_164 : decode cL_isBest 164 = .ok (.iload 7, 2) := by decide +kernel
theorem dL_isBest_166 : decode cL_isBest 166 = .ok (.invokevirtual 217, 3) := by decide +kernel
theorem dL_isBest_169 : decode cL_isBest 169 = .ok (.if_icmp .eq 5, 3) := by decide +kernel
theorem dL_isBest_172 : decode cL_isBest 172 = .ok (.iconst 0, 1) := by decide +kernel
theorem dL_isBest_173 : decode cL_isBest 173 = .ok (.ireturn, 1) := by decide +kernel
theorem dL_isBest_174 : decode cL_isBest 174 = .ok (.iinc 7 1, 3) := by decide +kernel
theorem dL_isBest_177 : decode cL_isBest 177 = .ok (.goto (-42), 3) := by decide +kernel
theorem dL_isBest_180 : decode cL_isBest 180 = .ok (.aload_n 0, 1) := by decide +kernel
theorem dL_isBest_181 : decode cL_isBest 181 = .ok (.invokevirtual 220, 3) := by decide +kernel
theorem dL_isBest_184 : decode cL_isBest 184 = .ok (.ifCond .lt 16, 3) := by decide +kernel
theorem dL_isBest_187 : decode cL_isBest 187 = .ok (.aload_n 0, 1) := by decide +kernel
theorem dL_isBest_188 : decode cL_isBest 188 = .ok (.invokestatic 210, 3) := by decide +kernel
theorem dL_isBest_191 : decode cL_isBest 191 = .ok (.lload_n 2, 1) := by decide +kernel
theorem dL_isBest_192 : decode cL_isBest 192 = .ok (.lcmp, 1) := by decide +kernel
theorem dL_isBest_193 : decode cL_isBest 193 = .ok (.ifCond .ne 7, 3) := by decide +kernel
theorem dL_isBest_196 : decode cL_isBest 196 = .ok (.iconst 1, 1) := by decide +kernel
theorem dL_isBest_197 : decode cL_isBest 197 = .ok (.goto 4, 3) := by decide +kernel
theorem dL_isBest_200 : decode cL_isBest 200 = .ok (.iconst 0, 1) := by decide +kernel
theorem dL_isBest_201 : decode cL_isBest 201 = .ok (.ireturn, 1) := by decide +kernel
theorem dL_isClosed_0 : decode cL_isClosed 0 = .ok (.aload_n 0, 1) := by decide +kernel
theorem dL_isClosed_1 : decode cL_isClosed 1 = .ok (.iconst 3, 1) := by decide +kernel
theorem dL_isClosed_2 : decode cL_isClosed 2 = .ok (.invokevirtual 110, 3) := by decide +kernel
theorem dL_isClosed_5 : decode cL_isClosed 5 = .ok (.bipush 60, 2) := by decide +kernel
theorem dL_isClosed_7 : decode cL_isClosed 7 = .ok (.if_icmp .ne 18, 3) := by decide +kernel
theorem dL_isClosed_10 : decode cL_isClosed 10 = .ok (.aload_n 0, 1) := by decide +kernel
theorem dL_isClosed_11 : decode cL_isClosed 11 = .ok (.invokevirtual 140, 3) := by decide +kernel
theorem dL_isClosed_14 : decode cL_isClosed 14 = .ok (.bipush (-2), 2) := by decide +kernel
theorem dL_isClosed_16 : decode cL_isClosed 16 = .ok (.if_icmp .ne 7, 3) := by decide +kernel
theorem dL_isClosed_19 : decode cL_isClosed 19 = .ok (.iconst 1, 1) := by decide +kernel
theorem dL_isClosed_20 : decode cL_isClosed 20 = .ok (.goto 4, 3) := by decide +kernel
theorem dL_isClosed_23 : decode cL_isClosed 23 = .ok (.iconst 0, 1) := by decide +kernel
theorem dL_isClosed_24 : decode cL_isClosed 24 = .ok (.ireturn, 1) := by decide +kernel
theorem dL_isClosed_25 : decode cL_isClosed 25 = .ok (.aload_n 0, 1) := by decide +kernel
theorem dL_isClosed_26 : decode cL_isClosed 26 = .ok (.invokestatic 210, 3) := by decide +kernel
theorem dL_isClosed_29 : decode cL_isClosed 29 = .ok (.lstore_n 1, 1) := by decide +kernel
theorem dL_isClosed_30 : decode cL_isClosed 30 = .ok (.aload_n 0, 1) := by decide +kernel
theorem dL_isClosed_31 : decode cL_isClosed 31 = .ok (.iconst 1, 1) := by decide +kernel
theorem dL_isClosed_32 : decode cL_isClosed 32 = .ok (.invokevirtual 110, 3) := by decide +kernel
theorem dL_isClosed_35 : decode cL_isClosed 35 = .ok (.istore_n 3, 1) := by decide +kernel
theorem dL_isClosed_36 : decode cL_isClosed 36 = .ok (.iload_n 3, 1) := by decide +kernel
theorem dL_isClosed_37 : decode cL_isClosed 37 = .ok (.newarray .boolean, 2) := by decide +kernel
theorem dL_isClosed_39 : decode cL_isClosed 39 = .ok (.astore 4, 2) := by decide +kernel
theorem dL_isClosed_41 : decode cL_isClosed 41 = .ok (.iload_n 3, 1) := by decide +kernel
theorem dL_isClosed_42 : decode cL_isClosed 42 = .ok (.newarray .int, 2) := by decide +kernel
theorem dL_isClosed_44 : decode cL_isClosed 44 = .ok (.astore 5, 2) := by decide +kernel
theorem dL_isClosed_46 : decode cL_isClosed 46 = .ok (.iconst 0, 1) := by decide +kernel
theorem dL_isClosed_47 : decode cL_isClosed 47 = .ok (.istore 6, 2) := by decide +kernel
theorem dL_isClosed_49 : decode cL_isClosed 49 = .ok (.iconst 0, 1) := by decide +kernel
theorem dL_isClosed_50 : decode cL_isClosed 50 = .ok (.istore 7, 2) := by decide +kernel
theorem dL_isClosed_52 : decode cL_isClosed 52 = .ok (.iconst 0, 1) := by decide +kernel
theorem dL_isClosed_53 : decode cL_isClosed 53 = .ok (.istore 8, 2) := by decide +kernel
theorem dL_isClosed_55 : decode cL_isClosed 55 = .ok (.iconst 0, 1) := by decide +kernel
theorem dL_isClosed_56 : decode cL_isClosed 56 = .ok (.istore 9, 2) := by decide +kernel
theorem dL_isClosed_58 : decode cL_isClosed 58 = .ok (.iload 9, 2) := by decide +kernel
theorem dL_isClosed_60 : decode cL_isClosed 60 = .ok (.iload_n 3, 1) := by decide +kernel
theorem dL_isClosed_61 : decode cL_isClosed 61 = .ok (.if_icmp .ge 58, 3) := by decide +kernel
theorem dL_isClosed_64 : decode cL_isClosed 64 = .ok (.aload 4, 2) := by decide +kernel
theorem dL_isClosed_66 : decode cL_isClosed 66 = .ok (.iload 9, 2) := by decide +kernel
theorem dL_isClosed_68 : decode cL_isClosed 68 = .ok (.aload_n 0, 1) := by decide +kernel
theorem dL_isClosed_69 : decode cL_isClosed 69 = .ok (.iload 9, 2) := by decide +kernel
theorem dL_isClosed_71 : decode cL_isClosed 71 = .ok (.invokevirtual 223, 3) := by decide +kernel
theorem dL_isClosed_74 : decode cL_isClosed 74 = .ok (.bastore, 1) := by decide +kernel
theorem dL_isClosed_75 : decode cL_isClosed 75 = .ok (.aload 5, 2) := by decide +kernel
theorem dL_isClosed_77 : decode cL_isClosed 77 = .ok (.iload 9, 2) := by decide +kernel
theorem dL_isClosed_79 : decode cL_isClosed 79 = .ok (.aload_n 0, 1) := by decide +kernel
theorem dL_isClosed_80 : decode cL_isClosed 80 = .ok (.iload 9, 2) := by decide +kernel
theorem dL_isClosed_82 : decode cL_isClosed 82 = .ok (.bipush 6, 2) := by decide +kernel
theorem dL_isClosed_84 : decode cL_isClosed 84 = .ok (.invokevirtual 197, 3) := by decide +kernel
theorem dL_isClosed_87 : decode cL_isClosed 87 = .ok (.iastore, 1) := by decide +kernel
theorem dL_isClosed_88 : decode cL_isClosed 88 = .ok (.iload 6, 2) := by decide +kernel
theorem dL_isClosed_90 : decode cL_isClosed 90 = .ok (.aload_n 0, 1) := by decide +kernel
theorem dL_isClosed_91 : decode cL_isClosed 91 = .ok (.iload 9, 2) := by decide +kernel
theorem dL_isClosed_93 : decode cL_isClosed 93 = .ok (.bipush 8, 2) := by decide +kernel
theorem dL_isClosed_95 : decode cL_isClosed 95 = .ok (.invokevirtual 108, 3) := by decide +kernel
theorem dL_isClosed_98 : decode cL_isClosed 98 = .ok (.iadd, 1) := by decide +kernel
theorem dL_isClosed_99 : decode cL_isClosed 99 = .ok (.istore 6, 2) := by decide +kernel
theorem dL_isClosed_101 : decode cL_isClosed 101 = .ok (.iload 8, 2) := by decide +kernel
theorem dL_isClosed_103 : decode cL_isClosed 103 = .ok (.aload_n 0, 1) := by decide +kernel
theorem dL_isClosed_104 : decode cL_isClosed 104 = .ok (.iload 9, 2) := by decide +kernel
theorem dL_isClosed_106 : decode cL_isClosed 106 = .ok (.iconst 3, 1) := by decide +kernel
theorem dL_isClosed_107 : decode cL_isClosed 107 = .ok (.invokevirtual 108, 3) := by decide +kernel
theorem dL_isClosed_110 : decode cL_isClosed 110 = .ok (.iadd, 1) := by decide +kernel
theorem dL_isClosed_111 : decode cL_isClosed 111 = .ok (.istore 8, 2) := by decide +kernel
theorem dL_isClosed_113 : decode cL_isClosed 113 = .ok (.iinc 9 1, 3) := by decide +kernel
theorem dL_isClosed_116 : decode cL_isClosed 116 = .ok (.goto (-58), 3) := by decide +kernel
theorem dL_isClosed_119 : decode cL_isClosed 119 = .ok (.iconst 0, 1) := by decide +kernel
theorem dL_isClosed_120 : decode cL_isClosed 120 = .ok (.istore 9, 2) := by decide +kernel
theorem dL_isClosed_122 : decode cL_isClosed 122 = .ok (.iload 9, 2) := by decide +kernel
theorem dL_isClosed_124 : decode cL_isClosed 124 = .ok (.aload_n 0, 1) := by decide +kernel
theorem dL_isClosed_125 : decode cL_isClosed 125 = .ok (.iconst 0, 1) := by decide +kernel
theorem dL_isClosed_126 : decode cL_isClosed 126 = .ok (.invokevirtual 110, 3) := by decide +kernel
theorem dL_isClosed_129 : decode cL_isClosed 129 = .ok (.if_icmp .ge 21, 3) := by decide +kernel
theorem dL_isClosed_132 : decode cL_isClosed 132 = .ok (.iload 7, 2) := by decide +kernel
theorem dL_isClosed_134 : decode cL_isClosed 134 = .ok (.aload_n 0, 1) := by decide +kernel
theorem dL_isClosed_135 : decode cL_isClosed 135 = .ok (.iload 9, 2) := by decide +kernel
theorem dL_isClosed_137 : decode cL_isClosed 137 = .ok (.iconst 4, 1) := by decide +kernel
theorem dL_isClosed_138 : decode cL_isClosed 138 = .ok (.invokevirtual 113, 3) := by decide +kernel
theorem dL_isClosed_141 : decode cL_isClosed 141 = .ok (.iadd, 1) := by decide +kernel
theorem dL_isClosed_142 : decode cL_isClosed 142 = .ok (.istore 7, 2) := by decide +kernel
theorem dL_isClosed_144 : decode cL_isClosed 144 = .ok (.iinc 9 1, 3) := by decide +kernel
theorem dL_isClosed_147 : decode cL_isClosed 147 = .ok (.goto (-25), 3) := by decide +kernel
theorem dL_isClosed_150 : decode cL_isClosed 150 = .ok (.iconst 4, 1) := by decide +kernel
theorem dL_isClosed_151 : decode cL_isClosed 151 = .ok (.newarray .int, 2) := by decide +kernel
theorem dL_isClosed_153 : decode cL_isClosed 153 = .ok (.dup, 1) := by decide +kernel
theorem dL_isClosed_154 : decode cL_isClosed 154 = .ok (.iconst 0, 1) := by decide +kernel
theorem dL_isClosed_155 : decode cL_isClosed 155 = .ok (.aload_n 0, 1) := by decide +kernel
theorem dL_isClosed_156 : decode cL_isClosed 156 = .ok (.iconst 0, 1) := by decide +kernel
theorem dL_isClosed_157 : decode cL_isClosed 157 = .ok (.invokevirtual 134, 3) := by decide +kernel
theorem dL_isClosed_160 : decode cL_isClosed 160 = .ok (.iastore, 1) := by decide +kernel
theorem dL_isClosed_161 : decode cL_isClosed 161 = .ok (.dup, 1) := by decide +kernel
theorem dL_isClosed_162 : decode cL_isClosed 162 = .ok (.iconst 1, 1) := by decide +kernel
theorem dL_isClosed_163 : decode cL_isClosed 163 = .ok (.aload_n 0, 1) := by decide +kernel
theorem dL_isClosed_164 : decode cL_isClosed 164 = .ok (.iconst 1, 1) := by decide +kernel
theorem dL_isClosed_165 : decode cL_isClosed 165 = .ok (.invokevirtual 134, 3) := by decide +kernel
theorem dL_isClosed_168 : decode cL_isClosed 168 = .ok (.iastore, 1) := by decide +kernel
theorem dL_isClosed_169 : decode cL_isClosed 169 = .ok (.dup, 1) := by decide +kernel
theorem dL_isClosed_170 : decode cL_isClosed 170 = .ok (.iconst 2, 1) := by decide +kernel
theorem dL_isClosed_171 : decode cL_isClosed 171 = .ok (.aload_n 0, 1) := by decide +kernel
theorem dL_isClosed_172 : decode cL_isClosed 172 = .ok (.iconst 2, 1) := by decide +kernel
theorem dL_isClosed_173 : decode cL_isClosed 173 = .ok (.invokevirtual 134, 3) := by decide +kernel
theorem dL_isClosed_176 : decode cL_isClosed 176 = .ok (.iastore, 1) := by decide +kernel
theorem dL_isClosed_177 : decode cL_isClosed 177 = .ok (.dup, 1) := by decide +kernel
theorem dL_isClosed_178 : decode cL_isClosed 178 = .ok (.iconst 3, 1) := by decide +kernel
theorem dL_isClosed_179 : decode cL_isClosed 179 = .ok (.aload_n 0, 1) := by decide +kernel
theorem dL_isClosed_180 : decode cL_isClosed 180 = .ok (.iconst 3, 1) := by decide +kernel
theorem dL_isClosed_181 : decode cL_isClosed 181 = .ok (.invokevirtual 134, 3) := by decide +kernel
theorem dL_isClosed_184 : decode cL_isClosed 184 = .ok (.iastore, 1) := by decide +kernel
theorem dL_isClosed_185 : decode cL_isClosed 185 = .ok (.astore 9, 2) := by decide +kernel
theorem dL_isClosed_187 : decode cL_isClosed 187 = .ok (.aload_n 0, 1) := by decide +kernel
theorem dL_isClosed_188 : decode cL_isClosed 188 = .ok (.iconst 4, 1) := by decide +kernel
theorem dL_isClosed_189 : decode cL_isClosed 189 = .ok (.invokevirtual 110, 3) := by decide +kernel
theorem dL_isClosed_192 : decode cL_isClosed 192 = .ok (.aload_n 0, 1) := by decide +kernel
theorem dL_isClosed_193 : decode cL_isClosed 193 = .ok (.iconst 5, 1) := by decide +kernel
theorem dL_isClosed_194 : decode cL_isClosed 194 = .ok (.invokevirtual 110, 3) := by decide +kernel
theorem dL_isClosed_197 : decode cL_isClosed 197 = .ok (.imul, 1) := by decide +kernel
theorem dL_isClosed_198 : decode cL_isClosed 198 = .ok (.istore 10, 2) := by decide +kernel
theorem dL_isClosed_200 : decode cL_isClosed 200 = .ok (.aload_n 0, 1) := by decide +kernel
theorem dL_isClosed_201 : decode cL_isClosed 201 = .ok (.invokevirtual 140, 3) := by decide +kernel
theorem dL_isClosed_204 : decode cL_isClosed 204 = .ok (.iload 6, 2) := by decide +kernel
theorem dL_isClosed_206 : decode cL_isClosed 206 = .ok (.if_icmp .ne 63, 3) := by decide +kernel
theorem dL_isClosed_209 : decode cL_isClosed 209 = .ok (.aload_n 0, 1) := by decide +kernel
theorem dL_isClosed_210 : decode cL_isClosed 210 = .ok (.iconst 0, 1) := by decide +kernel
theorem dL_isClosed_211 : decode cL_isClosed 211 = .ok (.invokevirtual 134, 3) := by decide +kernel
theorem dL_isClosed_214 : decode cL_isClosed 214 = .ok (.aload 9, 2) := by decide +kernel
theorem dL_isClosed_216 : decode cL_isClosed 216 = .ok (.iconst 0, 1) := by decide +kernel
theorem dL_isClosed_217 : decode cL_isClosed 217 = .ok (.iaload, 1) := by decide +kernel
theorem dL_isClosed_218 : decode cL_isClosed 218 = .ok (.iload 6, 2) := by decide +kernel
theorem dL_isClosed_220 : decode cL_isClosed 220 = .ok (.iadd, 1) := by decide +kernel
theorem dL_isClosed_221 : decode cL_isClosed 221 = .ok (.if_icmp .ne 48, 3) := by decide +kernel
theorem dL_isClosed_224 : decode cL_isClosed 224 = .ok (.aload_n 0, 1) := by decide +kernel
theorem dL_isClosed_225 : decode cL_isClosed 225 = .ok (.iconst 1, 1) := by decide +kernel
theorem dL_isClosed_226 : decode cL_isClosed 226 = .ok (.invokevirtual 134, 3) := by decide +kernel
theorem dL_isClosed_229 : decode cL_isClosed 229 = .ok (.aload 9, 2) := by decide +kernel
theorem dL_isClosed_231 : decode cL_isClosed 231 = .ok (.iconst 1, 1) := by decide +kernel
theorem dL_isClosed_232 : decode cL_isClosed 232 = .ok (.iaload, 1) := by decide +kernel
theorem dL_isClosed_233 : decode cL_isClosed 233 = .ok (.iload 7, 2) := by decide +kernel
theorem dL_isClosed_235 : decode cL_isClosed 235 = .ok (.iadd, 1) := by decide +kernel
theorem dL_isClosed_236 : decode cL_isClosed 236 = .ok (.if_icmp .ne 33, 3) := by decide +kernel
theorem dL_isClosed_239 : decode cL_isClosed 239 = .ok (.aload_n 0, 1) := by decide +kernel
theorem dL_isClosed_240 : decode cL_isClosed 240 = .ok (.iconst 2, 1) := by decide +kernel
theorem dL_isClosed_241 : decode cL_isClosed 241 = .ok (.invokevirtual 134, 3) := by decide +kernel
theorem dL_isClosed_244 : decode cL_isClosed 244 = .ok (.aload 9, 2) := by decide +kernel
theorem dL_isClosed_246 : decode cL_isClosed 246 = .ok (.iconst 2, 1) := by decide +kernel
theorem dL_isClosed_247 : decode cL_isClosed 247 = .ok (.iaload, 1) := by decide +kernel
theorem dL_isClosed_248 : decode cL_isClosed 248 = .ok (.iload 8, 2) := by decide +kernel
theorem dL_isClosed_250 : decode cL_isClosed 250 = .ok (.iadd, 1) := by decide +kernel
theorem dL_isClosed_251 : decode cL_isClosed 251 = .ok (.if_icmp .ne 18, 3) := by decide +kernel
theorem dL_isClosed_254 : decode cL_isClosed 254 = .ok (.aload_n 0, 1) := by decide +kernel
theorem dL_isClosed_255 : decode cL_isClosed 255 = .ok (.iconst 3, 1) := by decide +kernel
theorem dL_isClosed_256 : decode cL_isClosed 256 = .ok (.invokevirtual 134, 3) := by decide +kernel
theorem dL_isClosed_259 : decode cL_isClosed 259 = .ok (.aload 9, 2) := by decide +kernel
theorem dL_isClosed_261 : decode cL_isClosed 261 = .ok (.iconst 3, 1) := by decide +kernel
theorem dL_isClosed_262 : decode cL_isClosed 262 = .ok (.iaload, 1) := by decide +kernel
theorem dL_isClosed_263 : decode cL_isClosed 263 = .ok (.iload 10, 2) := by decide +kernel
theorem dL_isClosed_265 : decode cL_isClosed 265 = .ok (.iadd, 1) := by decide +kernel
theorem dL_isClosed_266 : decode cL_isClosed 266 = .ok (.if_icmp .eq 5, 3) := by decide +kernel
theorem dL_isClosed_269 : decode cL_isClosed 269 = .ok (.iconst 0, 1) := by decide +kernel
theorem dL_isClosed_270 : decode cL_isClosed 270 = .ok (.ireturn, 1) := by decide +kernel
theorem dL_isClosed_271 : decode cL_isClosed 271 = .ok (.iconst 0, 1) := by decide +kernel
theorem dL_isClosed_272 : decode cL_isClosed 272 = .ok (.istore 11, 2) := by decide +kernel
theorem dL_isClosed_274 : decode cL_isClosed 274 = .ok (.iconst 0, 1) := by decide +kernel
theorem dL_isClosed_275 : decode cL_isClosed 275 = .ok (.istore 12, 2) := by decide +kernel
theorem dL_isClosed_277 : decode cL_isClosed 277 = .ok (.iload 12, 2) := by decide +kernel
theorem dL_isClosed_279 : decode cL_isClosed 279 = .ok (.iload_n 3, 1) := by decide +kernel
theorem dL_isClosed_280 : decode cL_isClosed 280 = .ok (.if_icmp .ge 91, 3) := by decide +kernel
theorem dL_isClosed_283 : decode cL_isClosed 283 = .ok (.aload_n 0, 1) := by decide +kernel
theorem dL_isClosed_284 : decode cL_isClosed 284 = .ok (.iload 12, 2) := by decide +kernel
theorem dL_isClosed_286 : decode cL_isClosed 286 = .ok (.iconst 4, 1) := by decide +kernel
theorem dL_isClosed_287 : decode cL_isClosed 287 = .ok (.invokevirtual 108, 3) := by decide +kernel
theorem dL_isClosed_290 : decode cL_isClosed 290 = .ok (.aload 4, 2) := by decide +kernel
theorem dL_isClosed_292 : decode cL_isClosed 292 = .ok (.iload 12, 2) := by decide +kernel
theorem dL_isClosed_294 : decode cL_isClosed 294 = .ok (.baload, 1) := by decide +kernel
theorem dL_isClosed_295 : decode cL_isClosed 295 = .ok (.ifCond .eq 11, 3) := by decide +kernel
theorem dL_isClosed_298 : decode cL_isClosed 298 = .ok (.aload 5, 2) := by decide +kernel
theorem dL_isClosed_300 : decode cL_isClosed 300 = .ok (.iload 12, 2) := by decide +kernel
theorem dL_isClosed_302 : decode cL_isClosed 302 = .ok (.iaload, 1) := by decide +kernel
theorem dL_isClosed_303 : decode cL_isClosed 303 = .ok (.goto 4, 3) := by decide +kernel
theorem dL_isClosed_306 : decode cL_isClosed 306 = .ok (.iconst (-1), 1) := by decide +kernel
theorem dL_isClosed_307 : decode cL_isClosed 307 = .ok (.if_icmp .ne 38, 3) := by decide +kernel
theorem dL_isClosed_310 : decode cL_isClosed 310 = .ok (.aload_n 0, 1) := by decide +kernel
theorem dL_isClosed_311 : decode cL_isClosed 311 = .ok (.iload 12, 2) := by decide +kernel
theorem dL_isClosed_313 : decode cL_isClosed 313 = .ok (.iconst 5, 1) := by decide +kernel
theorem dL_isClosed_314 : decode cL_isClosed 314 = .ok (.invokevirtual 108, 3) := by decide +kernel
theorem dL_isClosed_317 : decode cL_isClosed 317 = .ok (.iconst (-1), 1) := by decide +kernel
theorem dL_isClosed_318 : decode cL_isClosed 318 = .ok (.if_icmp .ne 27, 3) := by decide +kernel
theorem dL_isClosed_321 : decode cL_isClosed 321 = .ok (.aload_n 0, 1) := by decide +kernel
theorem dL_isClosed_322 : decode cL_isClosed 322 = .ok (.iload 12, 2) := by decide +kernel
theorem dL_isClosed_324 : decode cL_isClosed 324 = .ok (.bipush 7, 2) := by decide +kernel
theorem dL_isClosed_326 : decode cL_isClosed 326 = .ok (.invokevirtual 108, 3) := by decide +kernel
theorem dL_isClosed_329 : decode cL_isClosed 329 = .ok (.aload 4, 2) := by decide +kernel
theorem dL_isClosed_331 : decode cL_isClosed 331 = .ok (.iload 12, 2) := by decide +kernel
theorem dL_isClosed_333 : decode cL_isClosed 333 = .ok (.baload, 1) := by decide +kernel
theorem dL_isClosed_334 : decode cL_isClosed 334 = .ok (.ifCond .eq 7, 3) := by decide +kernel
theorem dL_isClosed_337 : decode cL_isClosed 337 = .ok (.iconst 1, 1) := by decide +kernel
theorem dL_isClosed_338 : decode cL_isClosed 338 = .ok (.goto 4, 3) := by decide +kernel
theorem dL_isClosed_341 : decode cL_isClosed 341 = .ok (.iconst 0, 1) := by decide +kernel
theorem dL_isClosed_342 : decode cL_isClosed 342 = .ok (.if_icmp .eq 5, 3) := by decide +kernel
theorem dL_isClosed_345 : decode cL_isClosed 345 = .ok (.iconst 0, 1) := by decide +kernel
theorem dL_isClosed_346 : decode cL_isClosed 346 = .ok (.ireturn, 1) := by decide +kernel
theorem dL_isClosed_347 : decode cL_isClosed 347 = .ok (.iload 11, 2) := by decide +kernel
theorem dL_isClosed_349 : decode cL_isClosed 349 = .ok (.aload 4, 2) := by decide +kernel
theorem dL_isClosed_351 : decode cL_isClosed 351 = .ok (.iload 12, 2) := by decide +kernel
theorem dL_isClosed_353 : decode cL_isClosed 353 = .ok (.baload, 1) := by decide +kernel
theorem dL_isClosed_354 : decode cL_isClosed 354 = .ok (.ifCond .eq 7, 3) := by decide +kernel
theorem dL_isClosed_357 : decode cL_isClosed 357 = .ok (.iconst 1, 1) := by decide +kernel
theorem dL_isClosed_358 : decode cL_isClosed 358 = .ok (.goto 4, 3) := by decide +kernel
theorem dL_isClosed_361 : decode cL_isClosed 361 = .ok (.iconst 0, 1) := by decide +kernel
theorem dL_isClosed_362 : decode cL_isClosed 362 = .ok (.iadd, 1) := by decide +kernel
theorem dL_isClosed_363 : decode cL_isClosed 363 = .ok (.istore 11, 2) := by decide +kernel
theorem dL_isClosed_365 : decode cL_isClosed 365 = .ok (.iinc 12 1, 3) := by decide +kernel
theorem dL_isClosed_368 : decode cL_isClosed 368 = .ok (.goto (-91), 3) := by decide +kernel
theorem dL_isClosed_371 : decode cL_isClosed 371 = .ok (.aload_n 0, 1) := by decide +kernel
theorem dL_isClosed_372 : decode cL_isClosed 372 = .ok (.iconst 0, 1) := by decide +kernel
theorem dL_isClosed_373 : decode cL_isClosed 373 = .ok (.iconst 0, 1) := by decide +kernel
theorem dL_isClosed_374 : decode cL_isClosed 374 = .ok (.invokevirtual 227, 3) := by decide +kernel
theorem dL_isClosed_377 : decode cL_isClosed 377 = .ok (.iload 6, 2) := by decide +kernel
theorem dL_isClosed_379 : decode cL_isClosed 379 = .ok (.if_icmp .ne 33, 3) := by decide +kernel
theorem dL_isClosed_382 : decode cL_isClosed 382 = .ok (.aload_n 0, 1) := by decide +kernel
theorem dL_isClosed_383 : decode cL_isClosed 383 = .ok (.iconst 0, 1) := by decide +kernel
theorem dL_isClosed_384 : decode cL_isClosed 384 = .ok (.iconst 4, 1) := by decide +kernel
theorem dL_isClosed_385 : decode cL_isClosed 385 = .ok (.invokevirtual 227, 3) := by decide +kernel
theorem dL_isClosed_388 : decode cL_isClosed 388 = .ok (.iload 11, 2) := by decide +kernel
theorem dL_isClosed_390 : decode cL_isClosed 390 = .ok (.if_icmp .ne 22, 3) := by decide +kernel
theorem dL_isClosed_393 : decode cL_isClosed 393 = .ok (.aload_n 0, 1) := by decide +kernel
theorem dL_isClosed_394 : decode cL_isClosed 394 = .ok (.bipush 7, 2) := by decide +kernel
theorem dL_isClosed_396 : decode cL_isClosed 396 = .ok (.invokevirtual 110, 3) := by decide +kernel
theorem dL_isClosed_399 : decode cL_isClosed 399 = .ok (.iload 11, 2) := by decide +kernel
theorem dL_isClosed_401 : decode cL_isClosed 401 = .ok (.if_icmp .ne 11, 3) := by decide +kernel
theorem dL_isClosed_404 : decode cL_isClosed 404 = .ok (.aload_n 0, 1) := by decide +kernel
theorem dL_isClosed_405 : decode cL_isClosed 405 = .ok (.iconst 5, 1) := by decide +kernel
theorem dL_isClosed_406 : decode cL_isClosed 406 = .ok (.invokevirtual 110, 3) := by decide +kernel
theorem dL_isClosed_409 : decode cL_isClosed 409 = .ok (.ifCond .eq 5, 3) := by decide +kernel
theorem dL_isClosed_412 : decode cL_isClosed 412 = .ok (.iconst 0, 1) := by decide +kernel
theorem dL_isClosed_413 : decode cL_isClosed 413 = .ok (.ireturn, 1) := by decide +kernel
theorem dL_isClosed_414 : decode cL_isClosed 414 = .ok (.aload_n 0, 1) := by decide +kernel
theorem dL_isClosed_415 : decode cL_isClosed 415 = .ok (.invokestatic 229, 3) := by decide +kernel
theorem dL_isClosed_418 : decode cL_isClosed 418 = .ok (.ifCond .eq 23, 3) := by decide +kernel
theorem dL_isClosed_421 : decode cL_isClosed 421 = .ok (.aload_n 0, 1) := by decide +kernel
theorem dL_isClosed_422 : decode cL_isClosed 422 = .ok (.invokevirtual 220, 3) := by decide +kernel
theorem dL_isClosed_425 : decode cL_isClosed 425 = .ok (.ifCond .lt 16, 3) := by decide +kernel
theorem dL_isClosed_428 : decode cL_isClosed 428 = .ok (.aload_n 0, 1) := by decide +kernel
theorem dL_isClosed_429 : decode cL_isClosed 429 = .ok (.invokestatic 210, 3) := by decide +kernel
theorem dL_isClosed_432 : decode cL_isClosed 432 = .ok (.lload_n 1, 1) := by decide +kernel
theorem dL_isClosed_433 : decode cL_isClosed 433 = .ok (.lcmp, 1) := by decide +kernel
theorem dL_isClosed_434 : decode cL_isClosed 434 = .ok (.ifCond .ne 7, 3) := by decide +kernel
theorem dL_isClosed_437 : decode cL_isClosed 437 = .ok (.iconst 1, 1) := by decide +kernel
theorem dL_isClosed_438 : decode cL_isClosed 438 = .ok (.goto 4, 3) := by decide +kernel
theorem dL_isClosed_441 : decode cL_isClosed 441 = .ok (.iconst 0, 1) := by decide +kernel
theorem dL_isClosed_442 : decode cL_isClosed 442 = .ok (.ireturn, 1) := by decide +kernel
