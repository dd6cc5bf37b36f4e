theorem dX12_init_0 : decode cX12_init 0 = .ok (.aload_n 0, 1) := by decide +kernel
theorem dX12_init_1 : decode cX12_init 1 = .ok (.invokespecial 3, 3) := by decide +kernel
theorem dX12_init_4 : decode cX12_init 4 = .ok (.aload_n 0, 1) := by decide +kernel
theorem dX12_init_5 : decode cX12_init 5 = .ok (.sipush 312, 3) := by decide +kernel
theorem dX12_init_8 : decode cX12_init 8 = .ok (.newarray .int, 2) := by decide +kernel
theorem dX12_init_10 : decode cX12_init 10 = .ok (.putfield 9, 3) := by decide +kernel
theorem dX12_init_13 : decode cX12_init 13 = .ok (.aload_n 0, 1) := by decide +kernel
theorem dX12_init_14 : decode cX12_init 14 = .ok (.sipush 312, 3) := by decide +kernel
theorem dX12_init_17 : decode cX12_init 17 = .ok (.newarray .int, 2) := by decide +kernel
theorem dX12_init_19 : decode cX12_init 19 = .ok (.putfield 13, 3) := by decide +kernel
theorem dX12_init_22 : decode cX12_init 22 = .ok (.aload_n 0, 1) := by decide +kernel
theorem dX12_init_23 : decode cX12_init 23 = .ok (.sipush 312, 3) := by decide +kernel
theorem dX12_init_26 : decode cX12_init 26 = .ok (.newarray .int, 2) := by decide +kernel
theorem dX12_init_28 : decode cX12_init 28 = .ok (.putfield 16, 3) := by decide +kernel
theorem dX12_init_31 : decode cX12_init 31 = .ok (.aload_n 0, 1) := by decide +kernel
theorem dX12_init_32 : decode cX12_init 32 = .ok (.sipush 3120, 3) := by decide +kernel
theorem dX12_init_35 : decode cX12_init 35 = .ok (.newarray .int, 2) := by decide +kernel
theorem dX12_init_37 : decode cX12_init 37 = .ok (.putfield 19, 3) := by decide +kernel
theorem dX12_init_40 : decode cX12_init 40 = .ok (.aload_n 0, 1) := by decide +kernel
theorem dX12_init_41 : decode cX12_init 41 = .ok (.bipush 70, 2) := by decide +kernel
theorem dX12_init_43 : decode cX12_init 43 = .ok (.newarray .int, 2) := by decide +kernel
theorem dX12_init_45 : decode cX12_init 45 = .ok (.putfield 22, 3) := by decide +kernel
theorem dX12_init_48 : decode cX12_init 48 = .ok (.aload_n 0, 1) := by decide +kernel
theorem dX12_init_49 : decode cX12_init 49 = .ok (.bipush 10, 2) := by decide +kernel
theorem dX12_init_51 : decode cX12_init 51 = .ok (.newarray .boolean, 2) := by decide +kernel
theorem dX12_init_53 : decode cX12_init 53 = .ok (.putfield 25, 3) := by decide +kernel
theorem dX12_init_56 : decode cX12_init 56 = .ok (.aload_n 0, 1) := by decide +kernel
theorem dX12_init_57 : decode cX12_init 57 = .ok (.iconst 4, 1) := by decide +kernel
theorem dX12_init_58 : decode cX12_init 58 = .ok (.newarray .int, 2) := by decide +kernel
theorem dX12_init_60 : decode cX12_init 60 = .ok (.putfield 29, 3) := by decide +kernel
theorem dX12_init_63 : decode cX12_init 63 = .ok (.aload_n 0, 1) := by decide +kernel
theorem dX12_init_64 : decode cX12_init 64 = .ok (.iconst 4, 1) := by decide +kernel
theorem dX12_init_65 : decode cX12_init 65 = .ok (.newarray .int, 2) := by decide +kernel
theorem dX12_init_67 : decode cX12_init 67 = .ok (.putfield 32, 3) := by decide +kernel
theorem dX12_init_70 : decode cX12_init 70 = .ok (.aload_n 0, 1) := by decide +kernel
theorem dX12_init_71 : decode cX12_init 71 = .ok (.iconst 4, 1) := by decide +kernel
theorem dX12_init_72 : decode cX12_init 72 = .ok (.newarray .int, 2) := by decide +kernel
theorem dX12_init_74 : decode cX12_init 74 = .ok (.putfield 35, 3) := by decide +kernel
theorem dX12_init_77 : decode cX12_init 77 = .ok (.aload_n 0, 1) := by decide +kernel
theorem dX12_init_78 : decode cX12_init 78 = .ok (.iconst 4, 1) := by decide +kernel
theorem dX12_init_79 : decode cX12_init 79 = .ok (.newarray .int, 2) := by decide +kernel
theorem dX12_init_81 : decode cX12_init 81 = .ok (.putfield 38, 3) := by decide +kernel
theorem dX12_init_84 : decode cX12_init 84 = .ok (.aload_n 0, 1) := by decide +kernel
theorem dX12_init_85 : decode cX12_init 85 = .ok (.bipush 10, 2) := by decide +kernel
theorem dX12_init_87 : decode cX12_init 87 = .ok (.newarray .boolean, 2) := by decide +kernel
theorem dX12_init_89 : decode cX12_init 89 = .ok (.putfield 41, 3) := by decide +kernel
theorem dX12_init_92 : decode cX12_init 92 = .ok (.aload_n 0, 1) := by decide +kernel
theorem dX12_init_93 : decode cX12_init 93 = .ok (.bipush 40, 2) := by decide +kernel
theorem dX12_init_95 : decode cX12_init 95 = .ok (.newarray .int, 2) := by decide +kernel
theorem dX12_init_97 : decode cX12_init 97 = .ok (.putfield 44, 3) := by decide +kernel
theorem dX12_init_100 : decode cX12_init 100 = .ok (.aload_n 0, 1) := by decide +kernel
theorem dX12_init_101 : decode cX12_init 101 = .ok (.sipush 700, 3) := by decide +kernel
theorem dX12_init_104 : decode cX12_init 104 = .ok (.newarray .int, 2) := by decide +kernel
theorem dX12_init_106 : decode cX12_init 106 = .ok (.putfield 47, 3) := by decide +kernel
theorem dX12_init_109 : decode cX12_init 109 = .ok (.aload_n 0, 1) := by decide +kernel
theorem dX12_init_110 : decode cX12_init 110 = .ok (.iconst (-1), 1) := by decide +kernel
theorem dX12_init_111 : decode cX12_init 111 = .ok (.putfield 50, 3) := by decide +kernel
theorem dX12_init_114 : decode cX12_init 114 = .ok (.aload_n 0, 1) := by decide +kernel
theorem dX12_init_115 : decode cX12_init 115 = .ok (.bipush 9, 2) := by decide +kernel
theorem dX12_init_117 : decode cX12_init 117 = .ok (.anewarray 54, 3) := by decide +kernel
theorem dX12_init_120 : decode cX12_init 120 = .ok (.dup, 1) := by decide +kernel
theorem dX12_init_121 : decode cX12_init 121 = .ok (.iconst 0, 1) := by decide +kernel
theorem dX12_init_122 : decode cX12_init 122 = .ok (.ldc 56, 2) := by decide +kernel
theorem dX12_init_124 : decode cX12_init 124 = .ok (.aastore, 1) := by decide +kernel
theorem dX12_init_125 : decode cX12_init 125 = .ok (.dup, 1) := by decide +kernel
theorem dX12_init_126 : decode cX12_init 126 = .ok (.iconst 1, 1) := by decide +kernel
theorem dX12_init_127 : decode cX12_init 127 = .ok (.ldc 58, 2) := by decide +kernel
theorem dX12_init_129 : decode cX12_init 129 = .ok (.aastore, 1) := by decide +kernel
theorem dX12_init_130 : decode cX12_init 130 = .ok (.dup, 1) := by decide +kernel
theorem dX12_init_131 : decode cX12_init 131 = .ok (.iconst 2, 1) := by decide +kernel
theorem dX12_init_132 : decode cX12_init 132 = .ok (.ldc 60, 2) := by decide +kernel
theorem dX12_init_134 : decode cX12_init 134 = .ok (.aastore, 1) := by decide +kernel
theorem dX12_init_135 : decode cX12_init 135 = .ok (.dup, 1) := by decide +kernel
theorem dX12_init_136 : decode cX12_init 136 = .ok (.iconst 3, 1) := by decide +kernel
theorem dX12_init_137 : decode cX12_init 137 = .ok (.ldc 62, 2) := by decide +kernel
theorem dX12_init_139 : decode cX12_init 139 = .ok (.aastore, 1) := by decide +kernel
theorem dX12_init_140 : decode cX12_init 140 = .ok (.dup, 1) := by decide +kernel
theorem dX12_init_141 : decode cX12_init 141 = .ok (.iconst 4, 1) := by decide +kernel
theorem dX12_init_142 : decode cX12_init 142 = .ok (.ldc 64, 2) := by decide +kernel
theorem dX12_init_144 : decode cX12_init 144 = .ok (.aastore, 1) := by decide +kernel
theorem dX12_init_145 : decode cX12_init 145 = .ok (.dup, 1) := by decide +kernel
theorem dX12_init_146 : decode cX12_init 146 = .ok (.iconst 5, 1) := by decide +kernel
theorem dX12_init_147 : decode cX12_init 147 = .ok (.ldc 66, 2) := by decide +kernel
theorem dX12_init_149 : decode cX12_init 149 = .ok (.aastore, 1) := by decide +kernel
theorem dX12_init_150 : decode cX12_init 150 = .ok (.dup, 1) := by decide +kernel
theorem dX12_init_151 : decode cX12_init 151 = .ok (.bipush 6, 2) := by decide +kernel
theorem dX12_init_153 : decode cX12_init 153 = .ok (.ldc 68, 2) := by decide +kernel
theorem dX12_init_155 : decode cX12_init 155 = .ok (.aastore, 1) := by decide +kernel
theorem dX12_init_156 : decode cX12_init 156 = .ok (.dup, 1) := by decide +kernel
theorem dX12_init_157 : decode cX12_init 157 = .ok (.bipush 7, 2) := by decide +kernel
theorem dX12_init_159 : decode cX12_init 159 = .ok (.ldc 70, 2) := by decide +kernel
theorem dX12_init_161 : decode cX12_init 161 = .ok (.aastore, 1) := by decide +kernel
theorem dX12_init_162 : decode cX12_init 162 = .ok (.dup, 1) := by decide +kernel
theorem dX12_init_163 : decode cX12_init 163 = .ok (.bipush 8, 2) := by decide +kernel
theorem dX12_init_165 : decode cX12_init 165 = .ok (.ldc 72, 2) := by decide +kernel
theorem dX12_init_167 : decode cX12_init 167 = .ok (.aastore, 1) := by decide +kernel
theorem dX12_init_168 : decode cX12_init 168 = .ok (.putfield 74, 3) := by decide +kernel
theorem dX12_init_171 : decode cX12_init 171 = .ok (.aload_n 0, 1) := by decide +kernel
theorem dX12_init_172 : decode cX12_init 172 = .ok (.sipush 200, 3) := by decide +kernel
theorem dX12_init_175 : decode cX12_init 175 = .ok (.newarray .int, 2) := by decide +kernel
theorem dX12_init_177 : decode cX12_init 177 = .ok (.putfield 78, 3) := by decide +kernel
theorem dX12_init_180 : decode cX12_init 180 = .ok (.aload_n 0, 1) := by decide +kernel
theorem dX12_init_181 : decode cX12_init 181 = .ok (.sipush 200, 3) := by decide +kernel
theorem dX12_init_184 : decode cX12_init 184 = .ok (.newarray .long, 2) := by decide +kernel
theorem dX12_init_186 : decode cX12_init 186 = .ok (.putfield 81, 3) := by decide +kernel
theorem dX12_init_189 : decode cX12_init 189 = .ok (.aload_n 0, 1) := by decide +kernel
theorem dX12_init_190 : decode cX12_init 190 = .ok (.getfield 9, 3) := by decide +kernel
theorem dX12_init_193 : decode cX12_init 193 = .ok (.invokestatic 85, 3) := by decide +kernel
theorem dX12_init_196 : decode cX12_init 196 = .ok (.return_, 1) := by decide +kernel
theorem dX12_thrown_0 : decode cX12_thrown 0 = .ok (.aload_n 0, 1) := by decide +kernel
theorem dX12_thrown_1 : decode cX12_thrown 1 = .ok (.getfield 89, 3) := by decide +kernel
theorem dX12_thrown_4 : decode cX12_thrown 4 = .ok (.ireturn, 1) := by decide +kernel
theorem dX12_raise_0 : decode cX12_raise 0 = .ok (.aload_n 0, 1) := by decide +kernel
theorem dX12_raise_1 : decode cX12_raise 1 = .ok (.iload_n 1, 1) := by decide +kernel
theorem dX12_raise_2 : decode cX12_raise 2 = .ok (.putfield 89, 3) := by decide +kernel
theorem dX12_raise_5 : decode cX12_raise 5 = .ok (.iconst 0, 1) := by decide +kernel
theorem dX12_raise_6 : decode cX12_raise 6 = .ok (.ireturn, 1) := by decide +kernel
theorem dX12_inRange_0 : decode cX12_inRange 0 = .ok (.iload_n 0, 1) := by decide +kernel
theorem dX12_inRange_1 : decode cX12_inRange 1 = .ok (.iload_n 1, 1) := by decide +kernel
theorem dX12_inRange_2 : decode cX12_inRange 2 = .ok (.if_icmp .lt 12, 3) := by decide +kernel
theorem dX12_inRange_5 : decode cX12_inRange 5 = .ok (.iload_n 0, 1) := by decide +kernel
theorem dX12_inRange_6 : decode cX12_inRange 6 = .ok (.iload_n 2, 1) := by decide +kernel
theorem dX12_inRange_7 : decode cX12_inRange 7 = .ok (.if_icmp .gt 7, 3) := by decide +kernel
theorem dX12_inRange_10 : decode cX12_inRange 10 = .ok (.iconst 1, 1) := by decide +kernel
theorem dX12_inRange_11 : decode cX12_inRange 11 = .ok (.goto 4, 3) := by decide +kernel
theorem dX12_inRange_14 : decode cX12_inRange 14 = .ok (.iconst 0, 1) := by decide +kernel
theorem dX12_inRange_15 : decode cX12_inRange 15 = .ok (.ireturn, 1) := by decide +kernel
theorem dX12_clear_0 : decode cX12_clear 0 = .ok (.iconst 0, 1) := by decide +kernel
theorem dX12_clear_1 : decode cX12_clear 1 = .ok (.istore_n 1, 1) := by decide +kernel
theorem dX12_clear_2 : decode cX12_clear 2 = .ok (.iload_n 1, 1) := by decide +kernel
theorem dX12_clear_3 : decode cX12_clear 3 = .ok (.sipush 312, 3) := by decide +kernel
theorem dX12_clear_6 : decode cX12_clear 6 = .ok (.if_icmp .ge 13, 3) := by decide +kernel
theorem dX12_clear_9 : decode cX12_clear 9 = .ok (.aload_n 0, 1) := by decide +kernel
theorem dX12_clear_10 : decode cX12_clear 10 = .ok (.iload_n 1, 1) := by decide +kernel
theorem dX12_clear_11 : decode cX12_clear 11 = .ok (.iconst 0, 1) := by decide +kernel
theorem dX12_clear_12 : decode cX12_clear 12 = .ok (.iastore, 1) := by decide +kernel
theorem dX12_clear_13 : decode cX12_clear 13 = .ok (.iinc 1 1, 3) := by decide +kernel
theorem dX12_clear_16 : decode cX12_clear 16 = .ok (.goto (-14), 3) := by decide +kernel
theorem dX12_clear_19 : decode cX12_clear 19 = .ok (.return_, 1) := by decide +kernel
theorem dX12_houseAt_0 : decode cX12_houseAt 0 = .ok (.bipush 6, 2) := by decide +kernel
theorem dX12_houseAt_2 : decode cX12_houseAt 2 = .ok (.iconst 2, 1) := by decide +kernel
theorem dX12_houseAt_3 : decode cX12_houseAt 3 = .ok (.iload_n 0, 1) := by decide +kernel
theorem dX12_houseAt_4 : decode cX12_houseAt 4 = .ok (.imul, 1) := by decide +kernel
theorem dX12_houseAt_5 : decode cX12_houseAt 5 = .ok (.iadd, 1) := by decide +kernel
theorem dX12_houseAt_6 : decode cX12_houseAt 6 = .ok (.iload_n 1, 1) := by decide +kernel
theorem dX12_houseAt_7 : decode cX12_houseAt 7 = .ok (.iadd, 1) := by decide +kernel
theorem dX12_houseAt_8 : decode cX12_houseAt 8 = .ok (.ireturn, 1) := by decide +kernel
theorem dX12_screenAt_0 : decode cX12_screenAt 0 = .ok (.bipush 14, 2) := by decide +kernel
theorem dX12_screenAt_2 : decode cX12_screenAt 2 = .ok (.bipush 8, 2) := by decide +kernel
theorem dX12_screenAt_4 : decode cX12_screenAt 4 = .ok (.iload_n 0, 1) := by decide +kernel
theorem dX12_screenAt_5 : decode cX12_screenAt 5 = .ok (.imul, 1) := by decide +kernel
theorem dX12_screenAt_6 : decode cX12_screenAt 6 = .ok (.iadd, 1) := by decide +kernel
theorem dX12_screenAt_7 : decode cX12_screenAt 7 = .ok (.iload_n 1, 1) := by decide +kernel
theorem dX12_screenAt_8 : decode cX12_screenAt 8 = .ok (.iadd, 1) := by decide +kernel
theorem dX12_screenAt_9 : decode cX12_screenAt 9 = .ok (.ireturn, 1) := by decide +kernel
theorem dX12_filmAt_0 : decode cX12_filmAt 0 = .ok (.bipush 94, 2) := by decide +kernel
theorem dX12_filmAt_2 : decode cX12_filmAt 2 = .ok (.bipush 10, 2) := by decide +kernel
theorem dX12_filmAt_4 : decode cX12_filmAt 4 = .ok (.iload_n 0, 1) := by decide +kernel
theorem dX12_filmAt_5 : decode cX12_filmAt 5 = .ok (.imul, 1) := by decide +kernel
theorem dX12_filmAt_6 : decode cX12_filmAt 6 = .ok (.iadd, 1) := by decide +kernel
theorem dX12_filmAt_7 : decode cX12_filmAt 7 = .ok (.iload_n 1, 1) := by decide +kernel
theorem dX12_filmAt_8 : decode cX12_filmAt 8 = .ok (.iadd, 1) := by decide +kernel
theorem dX12_filmAt_9 : decode cX12_filmAt 9 = .ok (.ireturn, 1) := by decide +kernel
theorem dX12_printsAt_0 : decode cX12_printsAt 0 = .ok (.sipush 154, 3) := by decide +kernel
theorem dX12_printsAt_3 : decode cX12_printsAt 3 = .ok (.iconst 5, 1) := by decide +kernel
theorem dX12_printsAt_4 : decode cX12_printsAt 4 = .ok (.iload_n 0, 1) := by decide +kernel
theorem dX12_printsAt_5 : decode cX12_printsAt 5 = .ok (.imul, 1) := by decide +kernel
theorem dX12_printsAt_6 : decode cX12_printsAt 6 = .ok (.iadd, 1) := by decide +kernel
theorem dX12_printsAt_7 : decode cX12_printsAt 7 = .ok (.iload_n 1, 1) := by decide +kernel
theorem dX12_printsAt_8 : decode cX12_printsAt 8 = .ok (.iadd, 1) := by decide +kernel
theorem dX12_printsAt_9 : decode cX12_printsAt 9 = .ok (.iconst 1, 1) := by decide +kernel
theorem dX12_printsAt_10 : decode cX12_printsAt 10 = .ok (.iadd, 1) := by decide +kernel
theorem dX12_printsAt_11 : decode cX12_printsAt 11 = .ok (.ireturn, 1) := by decide +kernel
theorem dX12_runAt_0 : decode cX12_runAt 0 = .ok (.sipush 184, 3) := by decide +kernel
theorem dX12_runAt_3 : decode cX12_runAt 3 = .ok (.bipush 6, 2) := by decide +kernel
theorem dX12_runAt_5 : decode cX12_runAt 5 = .ok (.iload_n 0, 1) := by decide +kernel
theorem dX12_runAt_6 : decode cX12_runAt 6 = .ok (.imul, 1) := by decide +kernel
theorem dX12_runAt_7 : decode cX12_runAt 7 = .ok (.iadd, 1) := by decide +kernel
theorem dX12_runAt_8 : decode cX12_runAt 8 = .ok (.iload_n 1, 1) := by decide +kernel
theorem dX12_runAt_9 : decode cX12_runAt 9 = .ok (.iadd, 1) := by decide +kernel
theorem dX12_runAt_10 : decode cX12_runAt 10 = .ok (.ireturn, 1) := by decide +kernel
theorem dX12_houses_0 : decode cX12_houses 0 = .ok (.aload_n 0, 1) := by decide +kernel
theorem dX12_houses_1 : decode cX12_houses 1 = .ok (.getfield 9, 3) := by decide +kernel
theorem dX12_houses_4 : decode cX12_houses 4 = .ok (.iconst 0, 1) := by decide +kernel
theorem dX12_houses_5 : decode cX12_houses 5 = .ok (.iaload, 1) := by decide +kernel
theorem dX12_houses_6 : decode cX12_houses 6 = .ok (.ireturn, 1) := by decide +kernel
theorem dX12_screens_0 : decode cX12_screens 0 = .ok (.aload_n 0, 1) := by decide +kernel
theorem dX12_screens_1 : decode cX12_screens 1 = .ok (.getfield 9, 3) := by decide +kernel
theorem dX12_screens_4 : decode cX12_screens 4 = .ok (.iconst 1, 1) := by decide +kernel
theorem dX12_screens_5 : decode cX12_screens 5 = .ok (.iaload, 1) := by decide +kernel
theorem dX12_screens_6 : decode cX12_screens 6 = .ok (.ireturn, 1) := by decide +kernel
theorem dX12_films_0 : decode cX12_films 0 = .ok (.aload_n 0, 1) := by decide +kernel
theorem dX12_films_1 : decode cX12_films 1 = .ok (.getfield 9, 3) := by decide +kernel
theorem dX12_films_4 : decode cX12_films 4 = .ok (.iconst 2, 1) := by decide +kernel
theorem dX12_films_5 : decode cX12_films 5 = .ok (.iaload, 1) := by decide +kernel
theorem dX12_films_6 : decode cX12_films 6 = .ok (.ireturn, 1) := by decide +kernel
theorem dX12_ofHouse_0 : decode cX12_ofHouse 0 = .ok (.aload_n 0, 1) := by decide +kernel
theorem dX12_ofHouse_1 : decode cX12_ofHouse 1 = .ok (.getfield 9, 3) := by decide +kernel
theorem dX12_ofHouse_4 : decode cX12_ofHouse 4 = .ok (.iload_n 1, 1) := by decide +kernel
theorem dX12_ofHouse_5 : decode cX12_ofHouse 5 = .ok (.iload_n 2, 1) := by decide +kernel
theorem dX12_ofHouse_6 : decode cX12_ofHouse 6 = .ok (.invokestatic 92, 3) := by decide +kernel
theorem dX12_ofHouse_9 : decode cX12_ofHouse 9 = .ok (.iaload, 1) := by decide +kernel
theorem dX12_ofHouse_10 : decode cX12_ofHouse 10 = .ok (.ireturn, 1) := by decide +kernel
theorem dX12_of_0 : decode cX12_of 0 = .ok (.aload_n 0, 1) := by decide +kernel
theorem dX12_of_1 : decode cX12_of 1 = .ok (.getfield 9, 3) := by decide +kernel
theorem dX12_of_4 : decode cX12_of 4 = .ok (.iload_n 1, 1) := by decide +kernel
theorem dX12_of_5 : decode cX12_of 5 = .ok (.iload_n 2, 1) := by decide +kernel
theorem dX12_of_6 : decode cX12_of 6 = .ok (.invokestatic 96, 3) := by decide +kernel
theorem dX12_of_9 : decode cX12_of 9 = .ok (.iaload, 1) := by decide +kernel
theorem dX12_of_10 : decode cX12_of 10 = .ok (.ireturn, 1) := by decide +kernel
theorem dX12_ofFilm_0 : decode cX12_ofFilm 0 = .ok (.aload_n 0, 1) := by decide +kernel
theorem dX12_ofFilm_1 : decode cX12_ofFilm 1 = .ok (.getfield 9, 3) := by decide +kernel
theorem dX12_ofFilm_4 : decode cX12_ofFilm 4 = .ok (.iload_n 1, 1) := by decide +kernel
theorem dX12_ofFilm_5 : decode cX12_ofFilm 5 = .ok (.iload_n 2, 1) := by decide +kernel
theorem dX12_ofFilm_6 : decode cX12_ofFilm 6 = .ok (.invokestatic 99, 3) := by decide +kernel
theorem dX12_ofFilm_9 : decode cX12_ofFilm 9 = .ok (.iaload, 1) := by decide +kernel
theorem dX12_ofFilm_10 : decode cX12_ofFilm 10 = .ok (.ireturn, 1) := by decide +kernel
theorem dX12_printsOf_0 : decode cX12_printsOf 0 = .ok (.aload_n 0, 1) := by decide +kernel
theorem dX12_printsOf_1 : decode cX12_printsOf 1 = .ok (.getfield 9, 3) := by decide +kernel
theorem dX12_printsOf_4 : decode cX12_printsOf 4 = .ok (.iload_n 1, 1) := by decide +kernel
theorem dX12_printsOf_5 : decode cX12_printsOf 5 = .ok (.iload_n 2, 1) := by decide +kernel
theorem dX12_printsOf_6 : decode cX12_printsOf 6 = .ok (.invokestatic 102, 3) := by decide +kernel
theorem dX12_printsOf_9 : decode cX12_printsOf 9 = .ok (.iaload, 1) := by decide +kernel
theorem dX12_printsOf_10 : decode cX12_printsOf 10 = .ok (.ireturn, 1) := by decide +kernel
theorem dX12_isHouse_0 : decode cX12_isHouse 0 = .ok (.iload_n 1, 1) := by decide +kernel
theorem dX12_isHouse_1 : decode cX12_isHouse 1 = .ok (.iconst 0, 1) := by decide +kernel
theorem dX12_isHouse_2 : decode cX12_isHouse 2 = .ok (.aload_n 0, 1) := by decide +kernel
theorem dX12_isHouse_3 : decode cX12_isHouse 3 = .ok (.invokevirtual 105, 3) := by decide +kernel
theorem dX12_isHouse_6 : decode cX12_isHouse 6 = .ok (.iconst 1, 1) := by decide +kernel
theorem dX12_isHouse_7 : decode cX12_isHouse 7 = .ok (.isub, 1) := by decide +kernel
theorem dX12_isHouse_8 : decode cX12_isHouse 8 = .ok (.invokestatic 109, 3) := by decide +kernel
theorem dX12_isHouse_11 : decode cX12_isHouse 11 = .ok (.ireturn, 1) := by decide +kernel
theorem dX12_isScreen_0 : decode cX12_isScreen 0 = .ok (.iload_n 1, 1) := by decide +kernel
theorem dX12_isScreen_1 : decode cX12_isScreen 1 = .ok (.iconst 0, 1) := by decide +kernel
theorem dX12_isScreen_2 : decode cX12_isScreen 2 = .ok (.aload_n 0, 1) := by decide +kernel
theorem dX12_isScreen_3 : decode cX12_isScreen 3 = .ok (.invokevirtual 113, 3) := by decide +kernel
theorem dX12_isScreen_6 : decode cX12_isScreen 6 = .ok (.iconst 1, 1) := by decide +kernel
theorem dX12_isScreen_7 : decode cX12_isScreen 7 = .ok (.isub, 1) := by decide +kernel
theorem dX12_isScreen_8 : decode cX12_isScreen 8 = .ok (.invokestatic 109, 3) := by decide +kernel
theorem dX12_isScreen_11 : decode cX12_isScreen 11 = .ok (.ireturn, 1) := by decide +kernel
theorem dX12_isFilm_0 : decode cX12_isFilm 0 = .ok (.iload_n 1, 1) := by decide +kernel
theorem dX12_isFilm_1 : decode cX12_isFilm 1 = .ok (.iconst 0, 1) := by decide +kernel
theorem dX12_isFilm_2 : decode cX12_isFilm 2 = .ok (.aload_n 0, 1) := by decide +kernel
theorem dX12_isFilm_3 : decode cX12_isFilm 3 = .ok (.invokevirtual 116, 3) := by decide +kernel
theorem dX12_isFilm_6 : decode cX12_isFilm 6 = .ok (.iconst 1, 1) := by decide +kernel
theorem dX12_isFilm_7 : decode cX12_isFilm 7 = .ok (.isub, 1) := by decide +kernel
theorem dX12_isFilm_8 : decode cX12_isFilm 8 = .ok (.invokestatic 109, 3) := by decide +kernel
theorem dX12_isFilm_11 : decode cX12_isFilm 11 = .ok (.ireturn, 1) := by decide +kernel
theorem dX12_isPlace_0 : decode cX12_isPlace 0 = .ok (.iload_n 1, 1) := by decide +kernel
theorem dX12_isPlace_1 : decode cX12_isPlace 1 = .ok (.iconst (-1), 1) := by decide +kernel
theorem dX12_isPlace_2 : decode cX12_isPlace 2 = .ok (.aload_n 0, 1) := by decide +kernel
theorem dX12_isPlace_3 : decode cX12_isPlace 3 = .ok (.invokevirtual 105, 3) := by decide +kernel
theorem dX12_isPlace_6 : decode cX12_isPlace 6 = .ok (.iconst 1, 1) := by decide +kernel
theorem dX12_isPlace_7 : decode cX12_isPlace 7 = .ok (.isub, 1) := by decide +kernel
theorem dX12_isPlace_8 : decode cX12_isPlace 8 = .ok (.invokestatic 109, 3) := by decide +kernel
theorem dX12_isPlace_11 : decode cX12_isPlace 11 = .ok (.ireturn, 1) := by decide +kernel
theorem dX12_isDay_0 : decode cX12_isDay 0 = .ok (.iload_n 0, 1) := by decide +kernel
theorem dX12_isDay_1 : decode cX12_isDay 1 = .ok (.iconst 0, 1) := by decide +kernel
theorem dX12_isDay_2 : decode cX12_isDay 2 = .ok (.bipush 6, 2) := by decide +kernel
theorem dX12_isDay_4 : decode cX12_isDay 4 = .ok (.invokestatic 109, 3) := by decide +kernel
theorem dX12_isDay_7 : decode cX12_isDay 7 = .ok (.ireturn, 1) := by decide +kernel
theorem dX12_capacityOf_0 : decode cX12_capacityOf 0 = .ok (.aload_n 0, 1) := by decide +kernel
theorem dX12_capacityOf_1 : decode cX12_capacityOf 1 = .ok (.iload_n 1, 1) := by decide +kernel
theorem dX12_capacityOf_2 : decode cX12_capacityOf 2 = .ok (.iconst 1, 1) := by decide +kernel
theorem dX12_capacityOf_3 : decode cX12_capacityOf 3 = .ok (.invokevirtual 119, 3) := by decide +kernel
theorem dX12_capacityOf_6 : decode cX12_capacityOf 6 = .ok (.aload_n 0, 1) := by decide +kernel
theorem dX12_capacityOf_7 : decode cX12_capacityOf 7 = .ok (.iload_n 1, 1) := by decide +kernel
theorem dX12_capacityOf_8 : decode cX12_capacityOf 8 = .ok (.iconst 2, 1) := by decide +kernel
theorem dX12_capacityOf_9 : decode cX12_capacityOf 9 = .ok (.invokevirtual 119, 3) := by decide +kernel
theorem dX12_capacityOf_12 : decode cX12_capacityOf 12 = .ok (.imul, 1) := by decide +kernel
theorem dX12_capacityOf_13 : decode cX12_capacityOf 13 = .ok (.ireturn, 1) := by decide +kernel
theorem dX12_priceAt_0 : decode cX12_priceAt 0 = .ok (.aload_n 0, 1) := by decide +kernel
theorem dX12_priceAt_1 : decode cX12_priceAt 1 = .ok (.aload_n 0, 1) := by decide +kernel
theorem dX12_priceAt_2 : decode cX12_priceAt 2 = .ok (.iload_n 1, 1) := by decide +kernel
theorem dX12_priceAt_3 : decode cX12_priceAt 3 = .ok (.iconst 0, 1) := by decide +kernel
theorem dX12_priceAt_4 : decode cX12_priceAt 4 = .ok (.invokevirtual 119, 3) := by decide +kernel
theorem dX12_priceAt_7 : decode cX12_priceAt 7 = .ok (.iconst 0, 1) := by decide +kernel
theorem dX12_priceAt_8 : decode cX12_priceAt 8 = .ok (.invokevirtual 122, 3) := by decide +kernel
theorem dX12_priceAt_11 : decode cX12_priceAt 11 = .ok (.ireturn, 1) := by decide +kernel
theorem dX12_book_0 : decode cX12_book 0 = .ok (.aload_n 0, 1) := by decide +kernel
theorem dX12_book_1 : decode cX12_book 1 = .ok (.iload_n 1, 1) := by decide +kernel
theorem dX12_book_2 : decode cX12_book 2 = .ok (.iconst 4, 1) := by decide +kernel
theorem dX12_book_3 : decode cX12_book 3 = .ok (.invokestatic 96, 3) := by decide +kernel
theorem dX12_book_6 : decode cX12_book 6 = .ok (.iload_n 2, 1) := by decide +kernel
theorem dX12_book_7 : decode cX12_book 7 = .ok (.iastore, 1) := by decide +kernel
theorem dX12_book_8 : decode cX12_book 8 = .ok (.aload_n 0, 1) := by decide +kernel
theorem dX12_book_9 : decode cX12_book 9 = .ok (.iload_n 1, 1) := by decide +kernel
theorem dX12_book_10 : decode cX12_book 10 = .ok (.iconst 5, 1) := by decide +kernel
theorem dX12_book_11 : decode cX12_book 11 = .ok (.invokestatic 96, 3) := by decide +kernel
theorem dX12_book_14 : decode cX12_book 14 = .ok (.iload_n 3, 1) := by decide +kernel
theorem dX12_book_15 : decode cX12_book 15 = .ok (.iastore, 1) := by decide +kernel
theorem dX12_book_16 : decode cX12_book 16 = .ok (.aload_n 0, 1) := by decide +kernel
theorem dX12_book_17 : decode cX12_book 17 = .ok (.iload_n 1, 1) := by decide +kernel
theorem dX12_book_18 : decode cX12_book 18 = .ok (.bipush 6, 2) := by decide +kernel
theorem dX12_book_20 : decode cX12_book 20 = .ok (.invokestatic 96, 3) := by decide +kernel
theorem dX12_book_23 : decode cX12_book 23 = .ok (.iload 4, 2) := by decide +kernel
theorem dX12_book_25 : decode cX12_book 25 = .ok (.iastore, 1) := by decide +kernel
theorem dX12_book_26 : decode cX12_book 26 = .ok (.aload_n 0, 1) := by decide +kernel
theorem dX12_book_27 : decode cX12_book 27 = .ok (.iload_n 1, 1) := by decide +kernel
theorem dX12_book_28 : decode cX12_book 28 = .ok (.bipush 7, 2) := by decide +kernel
theorem dX12_book_30 : decode cX12_book 30 = .ok (.invokestatic 96, 3) := by decide +kernel
theorem dX12_book_33 : decode cX12_book 33 = .ok (.iload 5, 2) := by decide +kernel
theorem dX12_book_35 : decode cX12_book 35 = .ok (.ifCond .eq 7, 3) := by decide +kernel
theorem dX12_book_38 : decode cX12_book 38 = .ok (.iconst 1, 1) := by decide +kernel
theorem dX12_book_39 : decode cX12_book 39 = .ok (.goto 4, 3) := by decide +kernel
theorem dX12_book_42 : decode cX12_book 42 = .ok (.iconst 0, 1) := by decide +kernel
theorem dX12_book_43 : decode cX12_book 43 = .ok (.iastore, 1) := by decide +kernel
theorem dX12_book_44 : decode cX12_book 44 = .ok (.return_, 1) := by decide +kernel
theorem dX12_isSplit_0 : decode cX12_isSplit 0 = .ok (.aload_n 0, 1) := by decide +kernel
theorem dX12_isSplit_1 : decode cX12_isSplit 1 = .ok (.iload_n 1, 1) := by decide +kernel
theorem dX12_isSplit_2 : decode cX12_isSplit 2 = .ok (.iconst 5, 1) := by decide +kernel
theorem dX12_isSplit_3 : decode cX12_isSplit 3 = .ok (.invokevirtual 119, 3) := by decide +kernel
theorem dX12_isSplit_6 : decode cX12_isSplit 6 = .ok (.iconst (-1), 1) := by decide +kernel
theorem dX12_isSplit_7 : decode cX12_isSplit 7 = .ok (.if_icmp .eq 7, 3) := by decide +kernel
theorem dX12_isSplit_10 : decode cX12_isSplit 10 = .ok (.iconst 1, 1) := by decide +kernel
theorem dX12_isSplit_11 : decode cX12_isSplit 11 = .ok (.goto 4, 3) := by decide +kernel
theorem dX12_isSplit_14 : decode cX12_isSplit 14 = .ok (.iconst 0, 1) := by decide +kernel
theorem dX12_isSplit_15 : decode cX12_isSplit 15 = .ok (.ireturn, 1) := by decide +kernel
theorem dX12_shownOn_0 : decode cX12_shownOn 0 = .ok (.aload_n 0, 1) := by decide +kernel
theorem dX12_shownOn_1 : decode cX12_shownOn 1 = .ok (.iload_n 1, 1) := by decide +kernel
theorem dX12_shownOn_2 : decode cX12_shownOn 2 = .ok (.invokevirtual 125, 3) := by decide +kernel
theorem dX12_shownOn_5 : decode cX12_shownOn 5 = .ok (.ifCond .eq 23, 3) := by decide +kernel
theorem dX12_shownOn_8 : decode cX12_shownOn 8 = .ok (.iload_n 2, 1) := by decide +kernel
theorem dX12_shownOn_9 : decode cX12_shownOn 9 = .ok (.aload_n 0, 1) := by decide +kernel
theorem dX12_shownOn_10 : decode cX12_shownOn 10 = .ok (.iload_n 1, 1) := by decide +kernel
theorem dX12_shownOn_11 : decode cX12_shownOn 11 = .ok (.bipush 6, 2) := by decide +kernel
theorem dX12_shownOn_13 : decode cX12_shownOn 13 = .ok (.invokevirtual 119, 3) := by decide +kernel
theorem dX12_shownOn_16 : decode cX12_shownOn 16 = .ok (.if_icmp .lt 12, 3) := by decide +kernel
theorem dX12_shownOn_19 : decode cX12_shownOn 19 = .ok (.aload_n 0, 1) := by decide +kernel
theorem dX12_shownOn_20 : decode cX12_shownOn 20 = .ok (.iload_n 1, 1) := by decide +kernel
theorem dX12_shownOn_21 : decode cX12_shownOn 21 = .ok (.iconst 5, 1) := by decide +kernel
theorem dX12_shownOn_22 : decode cX12_shownOn 22 = .ok (.invokevirtual 119, 3) := by decide +kernel
theorem dX12_shownOn_25 : decode cX12_shownOn 25 = .ok (.goto 9, 3) := by decide +kernel
theorem dX12_shownOn_28 : decode cX12_shownOn 28 = .ok (.aload_n 0, 1) := by decide +kernel
theorem dX12_shownOn_29 : decode cX12_shownOn 29 = .ok (.iload_n 1, 1) := by decide +kernel
theorem dX12_shownOn_30 : decode cX12_shownOn 30 = .ok (.iconst 4, 1) := by decide +kernel
theorem dX12_shownOn_31 : decode cX12_shownOn 31 = .ok (.invokevirtual 119, 3) := by decide +kernel
theorem dX12_shownOn_34 : decode cX12_shownOn 34 = .ok (.ireturn, 1) := by decide +kernel
theorem dX12_shows_0 : decode cX12_shows 0 = .ok (.aload_n 0, 1) := by decide +kernel
theorem dX12_shows_1 : decode cX12_shows 1 = .ok (.iload_n 1, 1) := by decide +kernel
theorem dX12_shows_2 : decode cX12_shows 2 = .ok (.iconst 0, 1) := by decide +kernel
theorem dX12_shows_3 : decode cX12_shows 3 = .ok (.invokevirtual 119, 3) := by decide +kernel
theorem dX12_shows_6 : decode cX12_shows 6 = .ok (.iload_n 2, 1) := by decide +kernel
theorem dX12_shows_7 : decode cX12_shows 7 = .ok (.if_icmp .ne 18, 3) := by decide +kernel
theorem dX12_shows_10 : decode cX12_shows 10 = .ok (.aload_n 0, 1) := by decide +kernel
theorem dX12_shows_11 : decode cX12_shows 11 = .ok (.iload_n 1, 1) := by decide +kernel
theorem dX12_shows_12 : decode cX12_shows 12 = .ok (.iload 4, 2) := by decide +kernel
theorem dX12_shows_14 : decode cX12_shows 14 = .ok (.invokevirtual 129, 3) := by decide +kernel
theorem dX12_shows_17 : decode cX12_shows 17 = .ok (.iload_n 3, 1) := by decide +kernel
theorem dX12_shows_18 : decode cX12_shows 18 = .ok (.if_icmp .ne 7, 3) := by decide +kernel
theorem dX12_shows_21 : decode cX12_shows 21 = .ok (.iconst 1, 1) := by decide +kernel
theorem dX12_shows_22 : decode cX12_shows 22 = .ok (.goto 4, 3) := by decide +kernel
theorem dX12_shows_25 : decode cX12_shows 25 = .ok (.iconst 0, 1) := by decide +kernel
theorem dX12_shows_26 : decode cX12_shows 26 = .ok (.ireturn, 1) := by decide +kernel
theorem dX12_showing_0 : decode cX12_showing 0 = .ok (.iconst 0, 1) := by decide +kernel
theorem dX12_showing_1 : decode cX12_showing 1 = .ok (.istore 4, 2) := by decide +kernel
theorem dX12_showing_3 : decode cX12_showing 3 = .ok (.iconst 0, 1) := by decide +kernel
theorem dX12_showing_4 : decode cX12_showing 4 = .ok (.istore 5, 2) := by decide +kernel
theorem dX12_showing_6 : decode cX12_showing 6 = .ok (.iload 5, 2) := by decide +kernel
theorem dX12_showing_8 : decode cX12_showing 8 = .ok (.aload_n 0, 1) := by decide +kernel
theorem dX12_showing_9 : decode cX12_showing 9 = .ok (.invokevirtual 113, 3) := by decide +kernel
theorem dX12_showing_12 : decode cX12_showing 12 = .ok (.if_icmp .ge 31, 3) := by decide +kernel
theorem dX12_showing_15 : decode cX12_showing 15 = .ok (.iload 4, 2) := by decide +kernel
theorem dX12_showing_17 : decode cX12_showing 17 = .ok (.aload_n 0, 1) := by decide +kernel
theorem dX12_showing_18 : decode cX12_showing 18 = .ok (.iload 5, 2) := by decide +kernel
theorem dX12_showing_20 : decode cX12_showing 20 = .ok (.iload_n 1, 1) := by decide +kernel
theorem dX12_showing_21 : decode cX12_showing 21 = .ok (.iload_n 2, 1) := by decide +kernel
theorem dX12_showing_22 : decode cX12_showing 22 = .ok (.iload_n 3, 1) := by decide +kernel
theorem dX12_showing_23 : decode cX12_showing 23 = .ok (.invokevirtual 132, 3) := by decide +kernel
theorem dX12_showing_26 : decode cX12_showing 26 = .ok (.ifCond .eq 7, 3) := by decide +kernel
theorem dX12_showing_29 : decode cX12_showing 29 = .ok (.iconst 1, 1) := by decide +kernel
theorem dX12_showing_30 : decode cX12_showing 30 = .ok (.goto 4, 3) := by decide +kernel
theorem dX12_showing_33 : decode cX12_showing 33 = .ok (.iconst 0, 1) := by decide +kernel
theorem dX12_showing_34 : decode cX12_showing 34 = .ok (.iadd, 1) := by decide +kernel
theorem dX12_showing_35 : decode cX12_showing 35 = .ok (.istore 4, 2) := by decide +kernel
theorem dX12_showing_37 : decode cX12_showing 37 = .ok (.iinc 5 1, 3) := by decide +kernel
theorem dX12_showing_40 : decode cX12_showing 40 = .ok (.goto (-34), 3) := by decide +kernel
theorem dX12_showing_43 : decode cX12_showing 43 = .ok (.iload 4, 2) := by decide +kernel
theorem dX12_showing_45 : decode cX12_showing 45 = .ok (.ireturn, 1) := by decide +kernel
theorem dX12_needed_0 : decode cX12_needed 0 = .ok (.iconst 0, 1) := by decide +kernel
theorem dX12_needed_1 : decode cX12_needed 1 = .ok (.istore_n 3, 1) := by decide +kernel
theorem dX12_needed_2 : decode cX12_needed 2 = .ok (.iconst 0, 1) := by decide +kernel
theorem dX12_needed_3 : decode cX12_needed 3 = .ok (.istore 4, 2) := by decide +kernel
theorem dX12_needed_5 : decode cX12_needed 5 = .ok (.iload 4, 2) := by decide +kernel
theorem dX12_needed_7 : decode cX12_needed 7 = .ok (.bipush 7, 2) := by decide +kernel
theorem dX12_needed_9 : decode cX12_needed 9 = .ok (.if_icmp .ge 22, 3) := by decide +kernel
theorem dX12_needed_12 : decode cX12_needed 12 = .ok (.iload_n 3, 1) := by decide +kernel
theorem dX12_needed_13 : decode cX12_needed 13 = .ok (.aload_n 0, 1) := by decide +kernel
theorem dX12_needed_14 : decode cX12_needed 14 = .ok (.iload_n 1, 1) := by decide +kernel
theorem dX12_needed_15 : decode cX12_needed 15 = .ok (.iload_n 2, 1) := by decide +kernel
theorem dX12_needed_16 : decode cX12_needed 16 = .ok (.iload 4, 2) := by decide +kernel
theorem dX12_needed_18 : decode cX12_needed 18 = .ok (.invokevirtual 136, 3) := by decide +kernel
theorem dX12_needed_21 : decode cX12_needed 21 = .ok (.invokestatic 140, 3) := by decide +kernel
theorem dX12_needed_24 : decode cX12_needed 24 = .ok (.istore_n 3, 1) := by decide +kernel
theorem dX12_needed_25 : decode cX12_needed 25 = .ok (.iinc 4 1, 3) := by decide +kernel
theorem dX12_needed_28 : decode cX12_needed 28 = .ok (.goto (-23), 3) := by decide +kernel
theorem dX12_needed_31 : decode cX12_needed 31 = .ok (.iload_n 3, 1) := by decide +kernel
theorem dX12_needed_32 : decode cX12_needed 32 = .ok (.ireturn, 1) := by decide +kernel
theorem dX12_isShown_0 : decode cX12_isShown 0 = .ok (.aload_n 0, 1) := by decide +kernel
theorem dX12_isShown_1 : decode cX12_isShown 1 = .ok (.iload_n 1, 1) := by decide +kernel
theorem dX12_isShown_2 : decode cX12_isShown 2 = .ok (.iload_n 2, 1) := by decide +kernel
theorem dX12_isShown_3 : decode cX12_isShown 3 = .ok (.invokevirtual 145, 3) := by decide +kernel
theorem dX12_isShown_6 : decode cX12_isShown 6 = .ok (.ifCond .le 7, 3) := by decide +kernel
theorem dX12_isShown_9 : decode cX12_isShown 9 = .ok (.iconst 1, 1) := by decide +kernel
theorem dX12_isShown_10 : decode cX12_isShown 10 = .ok (.goto 4, 3) := by decide +kernel
theorem dX12_isShown_13 : decode cX12_isShown 13 = .ok (.iconst 0, 1) := by decide +kernel
theorem dX12_isShown_14 : decode cX12_isShown 14 = .ok (.ireturn, 1) := by decide +kernel
theorem dX12_ageOf_0 : decode cX12_ageOf 0 = .ok (.aload_n 0, 1) := by decide +kernel
theorem dX12_ageOf_1 : decode cX12_ageOf 1 = .ok (.iload_n 1, 1) := by decide +kernel
theorem dX12_ageOf_2 : decode cX12_ageOf 2 = .ok (.bipush 8, 2) := by decide +kernel
theorem dX12_ageOf_4 : decode cX12_ageOf 4 = .ok (.invokevirtual 148, 3) := by decide +kernel
theorem dX12_ageOf_7 : decode cX12_ageOf 7 = .ok (.iconst (-1), 1) := by decide +kernel
theorem dX12_ageOf_8 : decode cX12_ageOf 8 = .ok (.if_icmp .ne 7, 3) := by decide +kernel
theorem dX12_ageOf_11 : decode cX12_ageOf 11 = .ok (.iconst 0, 1) := by decide +kernel
theorem dX12_ageOf_12 : decode cX12_ageOf 12 = .ok (.goto 17, 3) := by decide +kernel
theorem dX12_ageOf_15 : decode cX12_ageOf 15 = .ok (.aload_n 0, 1) := by decide +kernel
theorem dX12_ageOf_16 : decode cX12_ageOf 16 = .ok (.getfield 9, 3) := by decide +kernel
theorem dX12_ageOf_19 : decode cX12_ageOf 19 = .ok (.iconst 3, 1) := by decide +kernel
theorem dX12_ageOf_20 : decode cX12_ageOf 20 = .ok (.iaload, 1) := by decide +kernel
theorem dX12_ageOf_21 : decode cX12_ageOf 21 = .ok (.aload_n 0, 1) := by decide +kernel
theorem dX12_ageOf_22 : decode cX12_ageOf 22 = .ok (.iload_n 1, 1) := by decide +kernel
theorem dX12_ageOf_23 : decode cX12_ageOf 23 = .ok (.bipush 8, 2) := by decide +kernel
theorem dX12_ageOf_25 : decode cX12_ageOf 25 = .ok (.invokevirtual 148, 3) := by decide +kernel
theorem dX12_ageOf_28 : decode cX12_ageOf 28 = .ok (.isub, 1) := by decide +kernel
theorem dX12_ageOf_29 : decode cX12_ageOf 29 = .ok (.ireturn, 1) := by decide +kernel
theorem dX12_demandOf_0 : decode cX12_demandOf 0 = .ok (.aload_n 0, 1) := by decide +kernel
theorem dX12_demandOf_1 : decode cX12_demandOf 1 = .ok (.iload_n 1, 1) := by decide +kernel
theorem dX12_demandOf_2 : decode cX12_demandOf 2 = .ok (.iconst 0, 1) := by decide +kernel
theorem dX12_demandOf_3 : decode cX12_demandOf 3 = .ok (.invokevirtual 148, 3) := by decide +kernel
theorem dX12_demandOf_6 : decode cX12_demandOf 6 = .ok (.istore_n 2, 1) := by decide +kernel
theorem dX12_demandOf_7 : decode cX12_demandOf 7 = .ok (.aload_n 0, 1) := by decide +kernel
theorem dX12_demandOf_8 : decode cX12_demandOf 8 = .ok (.iload_n 1, 1) := by decide +kernel
theorem dX12_demandOf_9 : decode cX12_demandOf 9 = .ok (.invokevirtual 151, 3) := by decide +kernel
theorem dX12_demandOf_12 : decode cX12_demandOf 12 = .ok (.istore_n 3, 1) := by decide +kernel
theorem dX12_demandOf_13 : decode cX12_demandOf 13 = .ok (.iload_n 3, 1) := by decide +kernel
theorem dX12_demandOf_14 : decode cX12_demandOf 14 = .ok (.ifCond .le 21, 3) := by decide +kernel
theorem dX12_demandOf_17 : decode cX12_demandOf 17 = .ok (.iload_n 2, 1) := by decide +kernel
theorem dX12_demandOf_18 : decode cX12_demandOf 18 = .ok (.aload_n 0, 1) := by decide +kernel
theorem dX12_demandOf_19 : decode cX12_demandOf 19 = .ok (.iload_n 1, 1) := by decide +kernel
theorem dX12_demandOf_20 : decode cX12_demandOf 20 = .ok (.iconst 1, 1) := by decide +kernel
theorem dX12_demandOf_21 : decode cX12_demandOf 21 = .ok (.invokevirtual 148, 3) := by decide +kernel
theorem dX12_demandOf_24 : decode cX12_demandOf 24 = .ok (.imul, 1) := by decide +kernel
theorem dX12_demandOf_25 : decode cX12_demandOf 25 = .ok (.bipush 100, 2) := by decide +kernel
theorem dX12_demandOf_27 : decode cX12_demandOf 27 = .ok (.idiv, 1) := by decide +kernel
theorem dX12_demandOf_28 : decode cX12_demandOf 28 = .ok (.istore_n 2, 1) := by decide +kernel
theorem dX12_demandOf_29 : decode cX12_demandOf 29 = .ok (.iinc 3 (-1), 3) := by decide +kernel
theorem dX12_demandOf_32 : decode cX12_demandOf 32 = .ok (.goto (-19), 3) := by decide +kernel
theorem dX12_demandOf_35 : decode cX12_demandOf 35 = .ok (.iload_n 2, 1) := by decide +kernel
theorem dX12_demandOf_36 : decode cX12_demandOf 36 = .ok (.ireturn, 1) := by decide +kernel
theorem dX12_largest_0 : decode cX12_largest 0 = .ok (.iconst (-1), 1) := by decide +kernel
theorem dX12_largest_1 : decode cX12_largest 1 = .ok (.istore 4, 2) := by decide +kernel
theorem dX12_largest_3 : decode cX12_largest 3 = .ok (.iconst 0, 1) := by decide +kernel
theorem dX12_largest_4 : decode cX12_largest 4 = .ok (.istore 5, 2) := by decide +kernel
theorem dX12_largest_6 : decode cX12_largest 6 = .ok (.iload 5, 2) := by decide +kernel
theorem dX12_largest_8 : decode cX12_largest 8 = .ok (.aload_n 0, 1) := by decide +kernel
theorem dX12_largest_9 : decode cX12_largest 9 = .ok (.invokevirtual 113, 3) := by decide +kernel
theorem dX12_largest_12 : decode cX12_largest 12 = .ok (.if_icmp .ge 73, 3) := by decide +kernel
theorem dX12_largest_15 : decode cX12_largest 15 = .ok (.aload_n 0, 1) := by decide +kernel
theorem dX12_largest_16 : decode cX12_largest 16 = .ok (.getfield 25, 3) := by decide +kernel
theorem dX12_largest_19 : decode cX12_largest 19 = .ok (.iload 5, 2) := by decide +kernel
theorem dX12_largest_21 : decode cX12_largest 21 = .ok (.baload, 1) := by decide +kernel
theorem dX12_largest_22 : decode cX12_largest 22 = .ok (.ifCond .ne 19, 3) := by decide +kernel
theorem dX12_largest_25 : decode cX12_largest 25 = .ok (.aload_n 0, 1) := by decide +kernel
theorem dX12_largest_26 : decode cX12_largest 26 = .ok (.iload 5, 2) := by decide +kernel
theorem dX12_largest_28 : decode cX12_largest 28 = .ok (.iload_n 1, 1) := by decide +kernel
theorem dX12_largest_29 : decode cX12_largest 29 = .ok (.iload_n 2, 1) := by decide +kernel
theorem dX12_largest_30 : decode cX12_largest 30 = .ok (.iload_n 3, 1) := by decide +kernel
theorem dX12_largest_31 : decode cX12_largest 31 = .ok (.invokevirtual 132, 3) := by decide +kernel
theorem dX12_largest_34 : decode cX12_largest 34 = .ok (.ifCond .eq 7, 3) := by decide +kernel
theorem dX12_largest_37 : decode cX12_largest 37 = .ok (.iconst 1, 1) := by decide +kernel
theorem dX12_largest_38 : decode cX12_largest 38 = .ok (.goto 4, 3) := by decide +kernel
theorem dX12_largest_41 : decode cX12_largest 41 = .ok (.iconst 0, 1) := by decide +kernel
theorem dX12_largest_42 : decode cX12_largest 42 = .ok (.istore 6, 2) := by decide +kernel
theorem dX12_largest_44 : decode cX12_largest 44 = .ok (.iload 6, 2) := by decide +kernel
theorem dX12_largest_46 : decode cX12_largest 46 = .ok (.ifCond .eq 29, 3) := by decide +kernel
theorem dX12_largest_49 : decode cX12_largest 49 = .ok (.iload 4, 2) := by decide +kernel
theorem dX12_largest_51 : decode cX12_largest 51 = .ok (.iconst (-1), 1) := by decide +kernel
theorem dX12_largest_52 : decode cX12_largest 52 = .ok (.if_icmp .eq 18, 3) := by decide +kernel
theorem dX12_largest_55 : decode cX12_largest 55 = .ok (.aload_n 0, 1) := by decide +kernel
theorem dX12_largest_56 : decode cX12_largest 56 = .ok (.iload 5, 2) := by decide +kernel
theorem dX12_largest_58 : decode cX12_largest 58 = .ok (.invokevirtual 155, 3) := by decide +kernel
theorem dX12_largest_61 : decode cX12_largest 61 = .ok (.aload_n 0, 1) := by decide +kernel
theorem dX12_largest_62 : decode cX12_largest 62 = .ok (.iload 4, 2) := by decide +kernel
theorem dX12_largest_64 : decode cX12_largest 64 = .ok (.invokevirtual 155, 3) := by decide +kernel
theorem dX12_largest_67 : decode cX12_largest 67 = .ok (.if_icmp .le 8, 3) := by decide +kernel
theorem dX12_largest_70 : decode cX12_largest 70 = .ok (.iload 5, 2) := by decide +kernel
theorem dX12_largest_72 : decode cX12_largest 72 = .ok (.goto 5, 3) := by decide +kernel
theorem dX12_largest_75 : decode cX12_largest 75 = .ok (.iload 4, 2) := by decide +kernel
theorem dX12_largest_77 : decode cX12_largest 77 = .ok (.istore 4, 2) := by decide +kernel
theorem dX12_largest_79 : decode cX12_largest 79 = .ok (.iinc 5 1, 3) := by decide +kernel
theorem dX12_largest_82 : decode cX12_largest 82 = .ok (.goto (-76), 3) := by decide +kernel
theorem dX12_largest_85 : decode cX12_largest 85 = .ok (.iload 4, 2) := by decide +kernel
theorem dX12_largest_87 : decode cX12_largest 87 = .ok (.ireturn, 1) := by decide +kernel
theorem dX12_layDay_0 : decode cX12_layDay 0 = .ok (.aload_n 0, 1) := by decide +kernel
theorem dX12_layDay_1 : decode cX12_layDay 1 = .ok (.iload_n 2, 1) := by decide +kernel
theorem dX12_layDay_2 : decode cX12_layDay 2 = .ok (.invokevirtual 158, 3) := by decide +kernel
theorem dX12_layDay_5 : decode cX12_layDay 5 = .ok (.istore 4, 2) := by decide +kernel
theorem dX12_layDay_7 : decode cX12_layDay 7 = .ok (.aload_n 0, 1) := by decide +kernel
theorem dX12_layDay_8 : decode cX12_layDay 8 = .ok (.iload_n 1, 1) := by decide +kernel
theorem dX12_layDay_9 : decode cX12_layDay 9 = .ok (.iload_n 2, 1) := by decide +kernel
theorem dX12_layDay_10 : decode cX12_layDay 10 = .ok (.iload_n 3, 1) := by decide +kernel
theorem dX12_layDay_11 : decode cX12_layDay 11 = .ok (.invokevirtual 161, 3) := by decide +kernel
theorem dX12_layDay_14 : decode cX12_layDay 14 = .ok (.istore 5, 2) := by decide +kernel
theorem dX12_layDay_16 : decode cX12_layDay 16 = .ok (.iload 5, 2) := by decide +kernel
theorem dX12_layDay_18 : decode cX12_layDay 18 = .ok (.iconst (-1), 1) := by decide +kernel
theorem dX12_layDay_19 : decode cX12_layDay 19 = .ok (.if_icmp .eq 63, 3) := by decide +kernel
theorem dX12_layDay_22 : decode cX12_layDay 22 = .ok (.aload_n 0, 1) := by decide +kernel
theorem dX12_layDay_23 : decode cX12_layDay 23 = .ok (.getfield 25, 3) := by decide +kernel
theorem dX12_layDay_26 : decode cX12_layDay 26 = .ok (.iload 5, 2) := by decide +kernel
theorem dX12_layDay_28 : decode cX12_layDay 28 = .ok (.iconst 1, 1) := by decide +kernel
theorem dX12_layDay_29 : decode cX12_layDay 29 = .ok (.bastore, 1) := by decide +kernel
theorem dX12_layDay_30 : decode cX12_layDay 30 = .ok (.aload_n 0, 1) := by decide +kernel
theorem dX12_layDay_31 : decode cX12_layDay 31 = .ok (.getfield 22, 3) := by decide +kernel
theorem dX12_layDay_34 : decode cX12_layDay 34 = .ok (.bipush 7, 2) := by decide +kernel
theorem dX12_layDay_36 : decode cX12_layDay 36 = .ok (.iload 5, 2) := by decide +kernel
theorem dX12_layDay_38 : decode cX12_layDay 38 = .ok (.imul, 1) := by decide +kernel
theorem dX12_layDay_39 : decode cX12_layDay 39 = .ok (.iload_n 3, 1) := by decide +kernel
theorem dX12_layDay_40 : decode cX12_layDay 40 = .ok (.iadd, 1) := by decide +kernel
theorem dX12_layDay_41 : decode cX12_layDay 41 = .ok (.iload 4, 2) := by decide +kernel
theorem dX12_layDay_43 : decode cX12_layDay 43 = .ok (.aload_n 0, 1) := by decide +kernel
theorem dX12_layDay_44 : decode cX12_layDay 44 = .ok (.iload 5, 2) := by decide +kernel
theorem dX12_layDay_46 : decode cX12_layDay 46 = .ok (.invokevirtual 155, 3) := by decide +kernel
theorem dX12_layDay_49 : decode cX12_layDay 49 = .ok (.invokestatic 164, 3) := by decide +kernel
theorem dX12_layDay_52 : decode cX12_layDay 52 = .ok (.iastore, 1) := by decide +kernel
theorem dX12_layDay_53 : decode cX12_layDay 53 = .ok (.iload 4, 2) := by decide +kernel
theorem dX12_layDay_55 : decode cX12_layDay 55 = .ok (.aload_n 0, 1) := by decide +kernel
theorem dX12_layDay_56 : decode cX12_layDay 56 = .ok (.getfield 22, 3) := by decide +kernel
theorem dX12_layDay_59 : decode cX12_layDay 59 = .ok (.bipush 7, 2) := by decide +kernel
theorem dX12_layDay_61 : decode cX12_layDay 61 = .ok (.iload 5, 2) := by decide +kernel
theorem dX12_layDay_63 : decode cX12_layDay 63 = .ok (.imul, 1) := by decide +kernel
theorem dX12_layDay_64 : decode cX12_layDay 64 = .ok (.iload_n 3, 1) := by decide +kernel
theorem dX12_layDay_65 : decode cX12_layDay 65 = .ok (.iadd, 1) := by decide +kernel
theorem dX12_layDay_66 : decode cX12_layDay 66 = .ok (.iaload, 1) := by decide +kernel
theorem dX12_layDay_67 : decode cX12_layDay 67 = .ok (.isub, 1) := by decide +kernel
theorem dX12_layDay_68 : decode cX12_layDay 68 = .ok (.istore 4, 2) := by decide +kernel
theorem dX12_layDay_70 : decode cX12_layDay 70 = .ok (.aload_n 0, 1) := by decide +kernel
theorem dX12_layDay_71 : decode cX12_layDay 71 = .ok (.iload_n 1, 1) := by decide +kernel
theorem dX12_layDay_72 : decode cX12_layDay 72 = .ok (.iload_n 2, 1) := by decide +kernel
theorem dX12_layDay_73 : decode cX12_layDay 73 = .ok (.iload_n 3, 1) := by decide +kernel
theorem dX12_layDay_74 : decode cX12_layDay 74 = .ok (.invokevirtual 161, 3) := by decide +kernel
theorem dX12_layDay_77 : decode cX12_layDay 77 = .ok (.istore 5, 2) := by decide +kernel
theorem dX12_layDay_79 : decode cX12_layDay 79 = .ok (.goto (-63), 3) := by decide +kernel
theorem dX12_layDay_82 : decode cX12_layDay 82 = .ok (.return_, 1) := by decide +kernel
theorem dX12_layWeek_0 : decode cX12_layWeek 0 = .ok (.iconst 0, 1) := by decide +kernel
theorem dX12_layWeek_1 : decode cX12_layWeek 1 = .ok (.istore_n 1, 1) := by decide +kernel
theorem dX12_layWeek_2 : decode cX12_layWeek 2 = .ok (.iload_n 1, 1) := by decide +kernel
theorem dX12_layWeek_3 : decode cX12_layWeek 3 = .ok (.bipush 70, 2) := by decide +kernel
theorem dX12_layWeek_5 : decode cX12_layWeek 5 = .ok (.if_icmp .ge 16, 3) := by decide +kernel
theorem dX12_layWeek_8 : decode cX12_layWeek 8 = .ok (.aload_n 0, 1) := by decide +kernel
theorem dX12_layWeek_9 : decode cX12_layWeek 9 = .ok (.getfield 22, 3) := by decide +kernel
theorem dX12_layWeek_12 : decode cX12_layWeek 12 = .ok (.iload_n 1, 1) := by decide +kernel
theorem dX12_layWeek_13 : decode cX12_layWeek 13 = .ok (.iconst 0, 1) := by decide +kernel
theorem dX12_layWeek_14 : decode cX12_layWeek 14 = .ok (.iastore, 1) := by decide +kernel
theorem dX12_layWeek_15 : decode cX12_layWeek 15 = .ok (.iinc 1 1, 3) := by decide +kernel
theorem dX12_layWeek_18 : decode cX12_layWeek 18 = .ok (.goto (-16), 3) := by decide +kernel
theorem dX12_layWeek_21 : decode cX12_layWeek 21 = .ok (.iconst 0, 1) := by decide +kernel
theorem dX12_layWeek_22 : decode cX12_layWeek 22 = .ok (.istore_n 1, 1) := by decide +kernel
theorem dX12_layWeek_23 : decode cX12_layWeek 23 = .ok (.iload_n 1, 1) := by decide +kernel
theorem dX12_layWeek_24 : decode cX12_layWeek 24 = .ok (.bipush 7, 2) := by decide +kernel
theorem dX12_layWeek_26 : decode cX12_layWeek 26 = .ok (.if_icmp .ge 69, 3) := by decide +kernel
theorem dX12_layWeek_29 : decode cX12_layWeek 29 = .ok (.iconst 0, 1) := by decide +kernel
theorem dX12_layWeek_30 : decode cX12_layWeek 30 = .ok (.istore_n 2, 1) := by decide +kernel
theorem dX12_layWeek_31 : decode cX12_layWeek 31 = .ok (.iload_n 2, 1) := by decide +kernel
theorem dX12_layWeek_32 : decode cX12_layWeek 32 = .ok (.bipush 10, 2) := by decide +kernel
theorem dX12_layWeek_34 : decode cX12_layWeek 34 = .ok (.if_icmp .ge 16, 3) := by decide +kernel
theorem dX12_layWeek_37 : decode cX12_layWeek 37 = .ok (.aload_n 0, 1) := by decide +kernel
theorem dX12_layWeek_38 : decode cX12_layWeek 38 = .ok (.getfield 25, 3) := by decide +kernel
theorem dX12_layWeek_41 : decode cX12_layWeek 41 = .ok (.iload_n 2, 1) := by decide +kernel
theorem dX12_layWeek_42 : decode cX12_layWeek 42 = .ok (.iconst 0, 1) := by decide +kernel
theorem dX12_layWeek_43 : decode cX12_layWeek 43 = .ok (.bastore, 1) := by decide +kernel
theorem dX12_layWeek_44 : decode cX12_layWeek 44 = .ok (.iinc 2 1, 3) := by decide +kernel
theorem dX12_layWeek_47 : decode cX12_layWeek 47 = .ok (.goto (-16), 3) := by decide +kernel
theorem dX12_layWeek_50 : decode cX12_layWeek 50 = .ok (.iconst 0, 1) := by decide +kernel
theorem dX12_layWeek_51 : decode cX12_layWeek 51 = .ok (.istore_n 2, 1) := by decide +kernel
theorem dX12_layWeek_52 : decode cX12_layWeek 52 = .ok (.iload_n 2, 1) := by decide +kernel
theorem dX12_layWeek_53 : decode cX12_layWeek 53 = .ok (.aload_n 0, 1) := by decide +kernel
theorem dX12_layWeek_54 : decode cX12_layWeek 54 = .ok (.invokevirtual 105, 3) := by decide +kernel
theorem dX12_layWeek_57 : decode cX12_layWeek 57 = .ok (.if_icmp .ge 32, 3) := by decide +kernel
theorem dX12_layWeek_60 : decode cX12_layWeek 60 = .ok (.iconst 0, 1) := by decide +kernel
theorem dX12_layWeek_61 : decode cX12_layWeek 61 = .ok (.istore_n 3, 1) := by decide +kernel
theorem dX12_layWeek_62 : decode cX12_layWeek 62 = .ok (.iload_n 3, 1) := by decide +kernel
theorem dX12_layWeek_63 : decode cX12_layWeek 63 = .ok (.aload_n 0, 1) := by decide +kernel
theorem dX12_layWeek_64 : decode cX12_layWeek 64 = .ok (.invokevirtual 116, 3) := by decide +kernel
theorem dX12_layWeek_67 : decode cX12_layWeek 67 = .ok (.if_icmp .ge 16, 3) := by decide +kernel
theorem dX12_layWeek_70 : decode cX12_layWeek 70 = .ok (.aload_n 0, 1) := by decide +kernel
theorem dX12_layWeek_71 : decode cX12_layWeek 71 = .ok (.iload_n 2, 1) := by decide +kernel
theorem dX12_layWeek_72 : decode cX12_layWeek 72 = .ok (.iload_n 3, 1) := by decide +kernel
theorem dX12_layWeek_73 : decode cX12_layWeek 73 = .ok (.iload_n 1, 1) := by decide +kernel
theorem dX12_layWeek_74 : decode cX12_layWeek 74 = .ok (.invokevirtual 167, 3) := by decide +kernel
theorem dX12_layWeek_77 : decode cX12_layWeek 77 = .ok (.iinc 3 1, 3) := by decide +kernel
theorem dX12_layWeek_80 : decode cX12_layWeek 80 = .ok (.goto (-18), 3) := by decide +kernel
theorem dX12_layWeek_83 : decode cX12_layWeek 83 = .ok (.iinc 2 1, 3) := by decide +kernel
theorem dX12_layWeek_86 : decode cX12_layWeek 86 = .ok (.goto (-34), 3) := by decide +kernel
theorem dX12_layWeek_89 : decode cX12_layWeek 89 = .ok (.iinc 1 1, 3) := by decide +kernel
theorem dX12_layWeek_92 : decode cX12_layWeek 92 = .ok (.goto (-69), 3) := by decide +kernel
theorem dX12_layWeek_95 : decode cX12_layWeek 95 = .ok (.return_, 1) := by decide +kernel
theorem dX12_guestsOf_0 : decode cX12_guestsOf 0 = .ok (.iconst 0, 1) := by decide +kernel
theorem dX12_guestsOf_1 : decode cX12_guestsOf 1 = .ok (.istore_n 2, 1) := by decide +kernel
theorem dX12_guestsOf_2 : decode cX12_guestsOf 2 = .ok (.iconst 0, 1) := by decide +kernel
theorem dX12_guestsOf_3 : decode cX12_guestsOf 3 = .ok (.istore_n 3, 1) := by decide +kernel
theorem dX12_guestsOf_4 : decode cX12_guestsOf 4 = .ok (.iload_n 3, 1) := by decide +kernel
theorem dX12_guestsOf_5 : decode cX12_guestsOf 5 = .ok (.bipush 7, 2) := by decide +kernel
theorem dX12_guestsOf_7 : decode cX12_guestsOf 7 = .ok (.if_icmp .ge 23, 3) := by decide +kernel
theorem dX12_guestsOf_10 : decode cX12_guestsOf 10 = .ok (.iload_n 2, 1) := by decide +kernel
theorem dX12_guestsOf_11 : decode cX12_guestsOf 11 = .ok (.aload_n 0, 1) := by decide +kernel
theorem dX12_guestsOf_12 : decode cX12_guestsOf 12 = .ok (.getfield 22, 3) := by decide +kernel
theorem dX12_guestsOf_15 : decode cX12_guestsOf 15 = .ok (.bipush 7, 2) := by decide +kernel
theorem dX12_guestsOf_17 : decode cX12_guestsOf 17 = .ok (.iload_n 1, 1) := by decide +kernel
theorem dX12_guestsOf_18 : decode cX12_guestsOf 18 = .ok (.imul, 1) := by decide +kernel
theorem dX12_guestsOf_19 : decode cX12_guestsOf 19 = .ok (.iload_n 3, 1) := by decide +kernel
theorem dX12_guestsOf_20 : decode cX12_guestsOf 20 = .ok (.iadd, 1) := by decide +kernel
theorem dX12_guestsOf_21 : decode cX12_guestsOf 21 = .ok (.iaload, 1) := by decide +kernel
theorem dX12_guestsOf_22 : decode cX12_guestsOf 22 = .ok (.iadd, 1) := by decide +kernel
theorem dX12_guestsOf_23 : decode cX12_guestsOf 23 = .ok (.istore_n 2, 1) := by decide +kernel
theorem dX12_guestsOf_24 : decode cX12_guestsOf 24 = .ok (.iinc 3 1, 3) := by decide +kernel
theorem dX12_guestsOf_27 : decode cX12_guestsOf 27 = .ok (.goto (-23), 3) := by decide +kernel
theorem dX12_guestsOf_30 : decode cX12_guestsOf 30 = .ok (.iload_n 2, 1) := by decide +kernel
theorem dX12_guestsOf_31 : decode cX12_guestsOf 31 = .ok (.ireturn, 1) := by decide +kernel
theorem dX12_takingsOf_0 : decode cX12_takingsOf 0 = .ok (.aload_n 0, 1) := by decide +kernel
theorem dX12_takingsOf_1 : decode cX12_takingsOf 1 = .ok (.iload_n 1, 1) := by decide +kernel
theorem dX12_takingsOf_2 : decode cX12_takingsOf 2 = .ok (.invokevirtual 171, 3) := by decide +kernel
theorem dX12_takingsOf_5 : decode cX12_takingsOf 5 = .ok (.aload_n 0, 1) := by decide +kernel
theorem dX12_takingsOf_6 : decode cX12_takingsOf 6 = .ok (.iload_n 1, 1) := by decide +kernel
theorem dX12_takingsOf_7 : decode cX12_takingsOf 7 = .ok (.invokevirtual 174, 3) := by decide +kernel
theorem dX12_takingsOf_10 : decode cX12_takingsOf 10 = .ok (.imul, 1) := by decide +kernel
theorem dX12_takingsOf_11 : decode cX12_takingsOf 11 = .ok (.ireturn, 1) := by decide +kernel
theorem dX12_takingsBy_0 : decode cX12_takingsBy 0 = .ok (.iconst 0, 1) := by decide +kernel
theorem dX12_takingsBy_1 : decode cX12_takingsBy 1 = .ok (.istore_n 3, 1) := by decide +kernel
theorem dX12_takingsBy_2 : decode cX12_takingsBy 2 = .ok (.iconst 0, 1) := by decide +kernel
theorem dX12_takingsBy_3 : decode cX12_takingsBy 3 = .ok (.istore 4, 2) := by decide +kernel
theorem dX12_takingsBy_5 : decode cX12_takingsBy 5 = .ok (.iload 4, 2) := by decide +kernel
theorem dX12_takingsBy_7 : decode cX12_takingsBy 7 = .ok (.bipush 7, 2) := by decide +kernel
theorem dX12_takingsBy_9 : decode cX12_takingsBy 9 = .ok (.if_icmp .ge 44, 3) := by decide +kernel
theorem dX12_takingsBy_12 : decode cX12_takingsBy 12 = .ok (.iload_n 3, 1) := by decide +kernel
theorem dX12_takingsBy_13 : decode cX12_takingsBy 13 = .ok (.iload_n 2, 1) := by decide +kernel
theorem dX12_takingsBy_14 : decode cX12_takingsBy 14 = .ok (.iconst (-1), 1) := by decide +kernel
theorem dX12_takingsBy_15 : decode cX12_takingsBy 15 = .ok (.if_icmp .eq 14, 3) := by decide +kernel
theorem dX12_takingsBy_18 : decode cX12_takingsBy 18 = .ok (.aload_n 0, 1) := by decide +kernel
theorem dX12_takingsBy_19 : decode cX12_takingsBy 19 = .ok (.iload_n 1, 1) := by decide +kernel
theorem dX12_takingsBy_20 : decode cX12_takingsBy 20 = .ok (.iload 4, 2) := by decide +kernel
theorem dX12_takingsBy_22 : decode cX12_takingsBy 22 = .ok (.invokevirtual 129, 3) := by decide +kernel
theorem dX12_takingsBy_25 : decode cX12_takingsBy 25 = .ok (.iload_n 2, 1) := by decide +kernel
theorem dX12_takingsBy_26 : decode cX12_takingsBy 26 = .ok (.if_icmp .ne 18, 3) := by decide +kernel
theorem dX12_takingsBy_29 : decode cX12_takingsBy 29 = .ok (.aload_n 0, 1) := by decide +kernel
theorem dX12_takingsBy_30 : decode cX12_takingsBy 30 = .ok (.getfield 22, 3) := by decide +kernel
theorem dX12_takingsBy_33 : decode cX12_takingsBy 33 = .ok (.bipush 7, 2) := by decide +kernel
theorem dX12_takingsBy_35 : decode cX12_takingsBy 35 = .ok (.iload_n 1, 1) := by decide +kernel
theorem dX12_takingsBy_36 : decode cX12_takingsBy 36 = .ok (.imul, 1) := by decide +kernel
theorem dX12_takingsBy_37 : decode cX12_takingsBy 37 = .ok (.iload 4, 2) := by decide +kernel
theorem dX12_takingsBy_39 : decode cX12_takingsBy 39 = .ok (.iadd, 1) := by decide +kernel
theorem dX12_takingsBy_40 : decode cX12_takingsBy 40 = .ok (.iaload, 1) := by decide +kernel
theorem dX12_takingsBy_41 : decode cX12_takingsBy 41 = .ok (.goto 4, 3) := by decide +kernel
theorem dX12_takingsBy_44 : decode cX12_takingsBy 44 = .ok (.iconst 0, 1) := by decide +kernel
theorem dX12_takingsBy_45 : decode cX12_takingsBy 45 = .ok (.iadd, 1) := by decide +kernel
theorem dX12_takingsBy_46 : decode cX12_takingsBy 46 = .ok (.istore_n 3, 1) := by decide +kernel
theorem dX12_takingsBy_47 : decode cX12_takingsBy 47 = .ok (.iinc 4 1, 3) := by decide +kernel
theorem dX12_takingsBy_50 : decode cX12_takingsBy 50 = .ok (.goto (-45), 3) := by decide +kernel
theorem dX12_takingsBy_53 : decode cX12_takingsBy 53 = .ok (.iload_n 3, 1) := by decide +kernel
theorem dX12_takingsBy_54 : decode cX12_takingsBy 54 = .ok (.aload_n 0, 1) := by decide +kernel
theorem dX12_takingsBy_55 : decode cX12_takingsBy 55 = .ok (.iload_n 1, 1) := by decide +kernel
theorem dX12_takingsBy_56 : decode cX12_takingsBy 56 = .ok (.invokevirtual 174, 3) := by decide +kernel
theorem dX12_takingsBy_59 : decode cX12_takingsBy 59 = .ok (.imul, 1) := by decide +kernel
theorem dX12_takingsBy_60 : decode cX12_takingsBy 60 = .ok (.ireturn, 1) := by decide +kernel
theorem dX12_takingsIn_0 : decode cX12_takingsIn 0 = .ok (.iconst 0, 1) := by decide +kernel
theorem dX12_takingsIn_1 : decode cX12_takingsIn 1 = .ok (.istore_n 3, 1) := by decide +kernel
theorem dX12_takingsIn_2 : decode cX12_takingsIn 2 = .ok (.iconst 0, 1) := by decide +kernel
theorem dX12_takingsIn_3 : decode cX12_takingsIn 3 = .ok (.istore 4, 2) := by decide +kernel
theorem dX12_takingsIn_5 : decode cX12_takingsIn 5 = .ok (.iload 4, 2) := by decide +kernel
theorem dX12_takingsIn_7 : decode cX12_takingsIn 7 = .ok (.aload_n 0, 1) := by decide +kernel
theorem dX12_takingsIn_8 : decode cX12_takingsIn 8 = .ok (.invokevirtual 113, 3) := by decide +kernel
theorem dX12_takingsIn_11 : decode cX12_takingsIn 11 = .ok (.if_icmp .ge 39, 3) := by decide +kernel
theorem dX12_takingsIn_14 : decode cX12_takingsIn 14 = .ok (.iload_n 3, 1) := by decide +kernel
theorem dX12_takingsIn_15 : decode cX12_takingsIn 15 = .ok (.iload_n 1, 1) := by decide +kernel
theorem dX12_takingsIn_16 : decode cX12_takingsIn 16 = .ok (.iconst (-1), 1) := by decide +kernel
theorem dX12_takingsIn_17 : decode cX12_takingsIn 17 = .ok (.if_icmp .eq 14, 3) := by decide +kernel
theorem dX12_takingsIn_20 : decode cX12_takingsIn 20 = .ok (.aload_n 0, 1) := by decide +kernel
theorem dX12_takingsIn_21 : decode cX12_takingsIn 21 = .ok (.iload 4, 2) := by decide +kernel
theorem dX12_takingsIn_23 : decode cX12_takingsIn 23 = .ok (.iconst 0, 1) := by decide +kernel
theorem dX12_takingsIn_24 : decode cX12_takingsIn 24 = .ok (.invokevirtual 119, 3) := by decide +kernel
theorem dX12_takingsIn_27 : decode cX12_takingsIn 27 = .ok (.iload_n 1, 1) := by decide +kernel
theorem dX12_takingsIn_28 : decode cX12_takingsIn 28 = .ok (.if_icmp .ne 13, 3) := by decide +kernel
theorem dX12_takingsIn_31 : decode cX12_takingsIn 31 = .ok (.aload_n 0, 1) := by decide +kernel
theorem dX12_takingsIn_32 : decode cX12_takingsIn 32 = .ok (.iload 4, 2) := by decide +kernel
theorem dX12_takingsIn_34 : decode cX12_takingsIn 34 = .ok (.iload_n 2, 1) := by decide +kernel
theorem dX12_takingsIn_35 : decode cX12_takingsIn 35 = .ok (.invokevirtual 177, 3) := by decide +kernel
theorem dX12_takingsIn_38 : decode cX12_takingsIn 38 = .ok (.goto 4, 3) := by decide +kernel
theorem dX12_takingsIn_41 : decode cX12_takingsIn 41 = .ok (.iconst 0, 1) := by decide +kernel
theorem dX12_takingsIn_42 : decode cX12_takingsIn 42 = .ok (.iadd, 1) := by decide +kernel
theorem dX12_takingsIn_43 : decode cX12_takingsIn 43 = .ok (.istore_n 3, 1) := by decide +kernel
theorem dX12_takingsIn_44 : decode cX12_takingsIn 44 = .ok (.iinc 4 1, 3) := by decide +kernel
theorem dX12_takingsIn_47 : decode cX12_takingsIn 47 = .ok (.goto (-42), 3) := by decide +kernel
theorem dX12_takingsIn_50 : decode cX12_takingsIn 50 = .ok (.iload_n 3, 1) := by decide +kernel
theorem dX12_takingsIn_51 : decode cX12_takingsIn 51 = .ok (.ireturn, 1) := by decide +kernel
theorem dX12_shareBy_0 : decode cX12_shareBy 0 = .ok (.aload_n 0, 1) := by decide +kernel
theorem dX12_shareBy_1 : decode cX12_shareBy 1 = .ok (.getfield 9, 3) := by decide +kernel
theorem dX12_shareBy_4 : decode cX12_shareBy 4 = .ok (.iload_n 1, 1) := by decide +kernel
theorem dX12_shareBy_5 : decode cX12_shareBy 5 = .ok (.iload_n 2, 1) := by decide +kernel
theorem dX12_shareBy_6 : decode cX12_shareBy 6 = .ok (.invokestatic 180, 3) := by decide +kernel
theorem dX12_shareBy_9 : decode cX12_shareBy 9 = .ok (.iaload, 1) := by decide +kernel
theorem dX12_shareBy_10 : decode cX12_shareBy 10 = .ok (.aload_n 0, 1) := by decide +kernel
theorem dX12_shareBy_11 : decode cX12_shareBy 11 = .ok (.iload_n 2, 1) := by decide +kernel
theorem dX12_shareBy_12 : decode cX12_shareBy 12 = .ok (.iconst 3, 1) := by decide +kernel
theorem dX12_shareBy_13 : decode cX12_shareBy 13 = .ok (.invokevirtual 148, 3) := by decide +kernel
theorem dX12_shareBy_16 : decode cX12_shareBy 16 = .ok (.iconst 1, 1) := by decide +kernel
theorem dX12_shareBy_17 : decode cX12_shareBy 17 = .ok (.isub, 1) := by decide +kernel
theorem dX12_shareBy_18 : decode cX12_shareBy 18 = .ok (.invokestatic 164, 3) := by decide +kernel
theorem dX12_shareBy_21 : decode cX12_shareBy 21 = .ok (.istore 4, 2) := by decide +kernel
theorem dX12_shareBy_23 : decode cX12_shareBy 23 = .ok (.iload_n 3, 1) := by decide +kernel
theorem dX12_shareBy_24 : decode cX12_shareBy 24 = .ok (.aload_n 0, 1) := by decide +kernel
theorem dX12_shareBy_25 : decode cX12_shareBy 25 = .ok (.iload_n 2, 1) := by decide +kernel
theorem dX12_shareBy_26 : decode cX12_shareBy 26 = .ok (.iconst 4, 1) := by decide +kernel
theorem dX12_shareBy_27 : decode cX12_shareBy 27 = .ok (.iload 4, 2) := by decide +kernel
theorem dX12_shareBy_29 : decode cX12_shareBy 29 = .ok (.iadd, 1) := by decide +kernel
theorem dX12_shareBy_30 : decode cX12_shareBy 30 = .ok (.invokevirtual 148, 3) := by decide +kernel
theorem dX12_shareBy_33 : decode cX12_shareBy 33 = .ok (.imul, 1) := by decide +kernel
theorem dX12_shareBy_34 : decode cX12_shareBy 34 = .ok (.bipush 100, 2) := by decide +kernel
theorem dX12_shareBy_36 : decode cX12_shareBy 36 = .ok (.idiv, 1) := by decide +kernel
theorem dX12_shareBy_37 : decode cX12_shareBy 37 = .ok (.aload_n 0, 1) := by decide +kernel
theorem dX12_shareBy_38 : decode cX12_shareBy 38 = .ok (.iload_n 2, 1) := by decide +kernel
theorem dX12_shareBy_39 : decode cX12_shareBy 39 = .ok (.iconst 2, 1) := by decide +kernel
theorem dX12_shareBy_40 : decode cX12_shareBy 40 = .ok (.invokevirtual 148, 3) := by decide +kernel
theorem dX12_shareBy_43 : decode cX12_shareBy 43 = .ok (.iload_n 3, 1) := by decide +kernel
theorem dX12_shareBy_44 : decode cX12_shareBy 44 = .ok (.invokestatic 164, 3) := by decide +kernel
theorem dX12_shareBy_47 : decode cX12_shareBy 47 = .ok (.invokestatic 140, 3) := by decide +kernel
theorem dX12_shareBy_50 : decode cX12_shareBy 50 = .ok (.ireturn, 1) := by decide +kernel
theorem dX12_shareOf_0 : decode cX12_shareOf 0 = .ok (.aload_n 0, 1) := by decide +kernel
theorem dX12_shareOf_1 : decode cX12_shareOf 1 = .ok (.iload_n 1, 1) := by decide +kernel
theorem dX12_shareOf_2 : decode cX12_shareOf 2 = .ok (.iload_n 2, 1) := by decide +kernel
theorem dX12_shareOf_3 : decode cX12_shareOf 3 = .ok (.invokevirtual 183, 3) := by decide +kernel
theorem dX12_shareOf_6 : decode cX12_shareOf 6 = .ok (.ifCond .eq 18, 3) := by decide +kernel
theorem dX12_shareOf_9 : decode cX12_shareOf 9 = .ok (.aload_n 0, 1) := by decide +kernel
theorem dX12_shareOf_10 : decode cX12_shareOf 10 = .ok (.iload_n 1, 1) := by decide +kernel
theorem dX12_shareOf_11 : decode cX12_shareOf 11 = .ok (.iload_n 2, 1) := by decide +kernel
theorem dX12_shareOf_12 : decode cX12_shareOf 12 = .ok (.aload_n 0, 1) := by decide +kernel
theorem dX12_shareOf_13 : decode cX12_shareOf 13 = .ok (.iload_n 1, 1) := by decide +kernel
theorem dX12_shareOf_14 : decode cX12_shareOf 14 = .ok (.iload_n 2, 1) := by decide +kernel
theorem dX12_shareOf_15 : decode cX12_shareOf 15 = .ok (.invokevirtual 187, 3) := by decide +kernel
theorem dX12_shareOf_18 : decode cX12_shareOf 18 = .ok (.invokevirtual 190, 3) := by decide +kernel
theorem dX12_shareOf_21 : decode cX12_shareOf 21 = .ok (.goto 4, 3) := by decide +kernel
theorem dX12_shareOf_24 : decode cX12_shareOf 24 = .ok (.iconst 0, 1) := by decide +kernel
theorem dX12_shareOf_25 : decode cX12_shareOf 25 = .ok (.ireturn, 1) := by decide +kernel
theorem dX12_sharesIn_0 : decode cX12_sharesIn 0 = .ok (.iconst 0, 1) := by decide +kernel
theorem dX12_sharesIn_1 : decode cX12_sharesIn 1 = .ok (.istore_n 2, 1) := by decide +kernel
theorem dX12_sharesIn_2 : decode cX12_sharesIn 2 = .ok (.iconst 0, 1) := by decide +kernel
theorem dX12_sharesIn_3 : decode cX12_sharesIn 3 = .ok (.istore_n 3, 1) := by decide +kernel
theorem dX12_sharesIn_4 : decode cX12_sharesIn 4 = .ok (.iload_n 3, 1) := by decide +kernel
theorem dX12_sharesIn_5 : decode cX12_sharesIn 5 = .ok (.aload_n 0, 1) := by decide +kernel
theorem dX12_sharesIn_6 : decode cX12_sharesIn 6 = .ok (.invokevirtual 116, 3) := by decide +kernel
theorem dX12_sharesIn_9 : decode cX12_sharesIn 9 = .ok (.if_icmp .ge 18, 3) := by decide +kernel
theorem dX12_sharesIn_12 : decode cX12_sharesIn 12 = .ok (.iload_n 2, 1) := by decide +kernel
theorem dX12_sharesIn_13 : decode cX12_sharesIn 13 = .ok (.aload_n 0, 1) := by decide +kernel
theorem dX12_sharesIn_14 : decode cX12_sharesIn 14 = .ok (.iload_n 1, 1) := by decide +kernel
theorem dX12_sharesIn_15 : decode cX12_sharesIn 15 = .ok (.iload_n 3, 1) := by decide +kernel
theorem dX12_sharesIn_16 : decode cX12_sharesIn 16 = .ok (.invokevirtual 193, 3) := by decide +kernel
theorem dX12_sharesIn_19 : decode cX12_sharesIn 19 = .ok (.iadd, 1) := by decide +kernel
theorem dX12_sharesIn_20 : decode cX12_sharesIn 20 = .ok (.istore_n 2, 1) := by decide +kernel
theorem dX12_sharesIn_21 : decode cX12_sharesIn 21 = .ok (.iinc 3 1, 3) := by decide +kernel
theorem dX12_sharesIn_24 : decode cX12_sharesIn 24 = .ok (.goto (-20), 3) := by decide +kernel
theorem dX12_sharesIn_27 : decode cX12_sharesIn 27 = .ok (.iload_n 2, 1) := by decide +kernel
theorem dX12_sharesIn_28 : decode cX12_sharesIn 28 = .ok (.ireturn, 1) := by decide +kernel
theorem dX12_rentsIn_0 : decode cX12_rentsIn 0 = .ok (.iconst 0, 1) := by decide +kernel
theorem dX12_rentsIn_1 : decode cX12_rentsIn 1 = .ok (.istore_n 2, 1) := by decide +kernel
theorem dX12_rentsIn_2 : decode cX12_rentsIn 2 = .ok (.iconst 0, 1) := by decide +kernel
theorem dX12_rentsIn_3 : decode cX12_rentsIn 3 = .ok (.istore_n 3, 1) := by decide +kernel
theorem dX12_rentsIn_4 : decode cX12_rentsIn 4 = .ok (.iload_n 3, 1) := by decide +kernel
theorem dX12_rentsIn_5 : decode cX12_rentsIn 5 = .ok (.aload_n 0, 1) := by decide +kernel
theorem dX12_rentsIn_6 : decode cX12_rentsIn 6 = .ok (.invokevirtual 113, 3) := by decide +kernel
theorem dX12_rentsIn_9 : decode cX12_rentsIn 9 = .ok (.if_icmp .ge 37, 3) := by decide +kernel
theorem dX12_rentsIn_12 : decode cX12_rentsIn 12 = .ok (.iload_n 2, 1) := by decide +kernel
theorem dX12_rentsIn_13 : decode cX12_rentsIn 13 = .ok (.iload_n 1, 1) := by decide +kernel
theorem dX12_rentsIn_14 : decode cX12_rentsIn 14 = .ok (.iconst (-1), 1) := by decide +kernel
theorem dX12_rentsIn_15 : decode cX12_rentsIn 15 = .ok (.if_icmp .eq 13, 3) := by decide +kernel
theorem dX12_rentsIn_18 : decode cX12_rentsIn 18 = .ok (.aload_n 0, 1) := by decide +kernel
theorem dX12_rentsIn_19 : decode cX12_rentsIn 19 = .ok (.iload_n 3, 1) := by decide +kernel
theorem dX12_rentsIn_20 : decode cX12_rentsIn 20 = .ok (.iconst 0, 1) := by decide +kernel
theorem dX12_rentsIn_21 : decode cX12_rentsIn 21 = .ok (.invokevirtual 119, 3) := by decide +kernel
theorem dX12_rentsIn_24 : decode cX12_rentsIn 24 = .ok (.iload_n 1, 1) := by decide +kernel
theorem dX12_rentsIn_25 : decode cX12_rentsIn 25 = .ok (.if_icmp .ne 12, 3) := by decide +kernel
theorem dX12_rentsIn_28 : decode cX12_rentsIn 28 = .ok (.aload_n 0, 1) := by decide +kernel
theorem dX12_rentsIn_29 : decode cX12_rentsIn 29 = .ok (.iload_n 3, 1) := by decide +kernel
theorem dX12_rentsIn_30 : decode cX12_rentsIn 30 = .ok (.iconst 3, 1) := by decide +kernel
theorem dX12_rentsIn_31 : decode cX12_rentsIn 31 = .ok (.invokevirtual 119, 3) := by decide +kernel
theorem dX12_rentsIn_34 : decode cX12_rentsIn 34 = .ok (.goto 4, 3) := by decide +kernel
theorem dX12_rentsIn_37 : decode cX12_rentsIn 37 = .ok (.iconst 0, 1) := by decide +kernel
theorem dX12_rentsIn_38 : decode cX12_rentsIn 38 = .ok (.iadd, 1) := by decide +kernel
theorem dX12_rentsIn_39 : decode cX12_rentsIn 39 = .ok (.istore_n 2, 1) := by decide +kernel
theorem dX12_rentsIn_40 : decode cX12_rentsIn 40 = .ok (.iinc 3 1, 3) := by decide +kernel
theorem dX12_rentsIn_43 : decode cX12_rentsIn 43 = .ok (.goto (-39), 3) := by decide +kernel
theorem dX12_rentsIn_46 : decode cX12_rentsIn 46 = .ok (.iload_n 2, 1) := by decide +kernel
theorem dX12_rentsIn_47 : decode cX12_rentsIn 47 = .ok (.ireturn, 1) := by decide +kernel
theorem dX12_daysOf_0 : decode cX12_daysOf 0 = .ok (.iconst 0, 1) := by decide +kernel
theorem dX12_daysOf_1 : decode cX12_daysOf 1 = .ok (.istore_n 3, 1) := by decide +kernel
theorem dX12_daysOf_2 : decode cX12_daysOf 2 = .ok (.iconst 0, 1) := by decide +kernel
theorem dX12_daysOf_3 : decode cX12_daysOf 3 = .ok (.istore 4, 2) := by decide +kernel
theorem dX12_daysOf_5 : decode cX12_daysOf 5 = .ok (.iload 4, 2) := by decide +kernel
theorem dX12_daysOf_7 : decode cX12_daysOf 7 = .ok (.bipush 7, 2) := by decide +kernel
theorem dX12_daysOf_9 : decode cX12_daysOf 9 = .ok (.if_icmp .ge 28, 3) := by decide +kernel
theorem dX12_daysOf_12 : decode cX12_daysOf 12 = .ok (.iload_n 3, 1) := by decide +kernel
theorem dX12_daysOf_13 : decode cX12_daysOf 13 = .ok (.aload_n 0, 1) := by decide +kernel
theorem dX12_daysOf_14 : decode cX12_daysOf 14 = .ok (.iload_n 1, 1) := by decide +kernel
theorem dX12_daysOf_15 : decode cX12_daysOf 15 = .ok (.iload 4, 2) := by decide +kernel
theorem dX12_daysOf_17 : decode cX12_daysOf 17 = .ok (.invokevirtual 129, 3) := by decide +kernel
theorem dX12_daysOf_20 : decode cX12_daysOf 20 = .ok (.iload_n 2, 1) := by decide +kernel
theorem dX12_daysOf_21 : decode cX12_daysOf 21 = .ok (.if_icmp .ne 7, 3) := by decide +kernel
theorem dX12_daysOf_24 : decode cX12_daysOf 24 = .ok (.iconst 1, 1) := by decide +kernel
theorem dX12_daysOf_25 : decode cX12_daysOf 25 = .ok (.goto 4, 3) := by decide +kernel
theorem dX12_daysOf_28 : decode cX12_daysOf 28 = .ok (.iconst 0, 1) := by decide +kernel
theorem dX12_daysOf_29 : decode cX12_daysOf 29 = .ok (.iadd, 1) := by decide +kernel
theorem dX12_daysOf_30 : decode cX12_daysOf 30 = .ok (.istore_n 3, 1) := by decide +kernel
theorem dX12_daysOf_31 : decode cX12_daysOf 31 = .ok (.iinc 4 1, 3) := by decide +kernel
theorem dX12_daysOf_34 : decode cX12_daysOf 34 = .ok (.goto (-29), 3) := by decide +kernel
theorem dX12_daysOf_37 : decode cX12_daysOf 37 = .ok (.iload_n 3, 1) := by decide +kernel
theorem dX12_daysOf_38 : decode cX12_daysOf 38 = .ok (.ireturn, 1) := by decide +kernel
theorem dX12_isHolding_0 : decode cX12_isHolding 0 = .ok (.aload_n 0, 1) := by decide +kernel
theorem dX12_isHolding_1 : decode cX12_isHolding 1 = .ok (.iload_n 1, 1) := by decide +kernel
theorem dX12_isHolding_2 : decode cX12_isHolding 2 = .ok (.bipush 6, 2) := by decide +kernel
theorem dX12_isHolding_4 : decode cX12_isHolding 4 = .ok (.invokevirtual 129, 3) := by decide +kernel
theorem dX12_isHolding_7 : decode cX12_isHolding 7 = .ok (.istore_n 2, 1) := by decide +kernel
theorem dX12_isHolding_8 : decode cX12_isHolding 8 = .ok (.iload_n 2, 1) := by decide +kernel
theorem dX12_isHolding_9 : decode cX12_isHolding 9 = .ok (.iconst (-1), 1) := by decide +kernel
theorem dX12_isHolding_10 : decode cX12_isHolding 10 = .ok (.if_icmp .ne 5, 3) := by decide +kernel
theorem dX12_isHolding_13 : decode cX12_isHolding 13 = .ok (.iconst 0, 1) := by decide +kernel
theorem dX12_isHolding_14 : decode cX12_isHolding 14 = .ok (.ireturn, 1) := by decide +kernel
theorem dX12_isHolding_15 : decode cX12_isHolding 15 = .ok (.aload_n 0, 1) := by decide +kernel
theorem dX12_isHolding_16 : decode cX12_isHolding 16 = .ok (.iload_n 1, 1) := by decide +kernel
theorem dX12_isHolding_17 : decode cX12_isHolding 17 = .ok (.iload_n 2, 1) := by decide +kernel
theorem dX12_isHolding_18 : decode cX12_isHolding 18 = .ok (.invokevirtual 196, 3) := by decide +kernel
theorem dX12_isHolding_21 : decode cX12_isHolding 21 = .ok (.aload_n 0, 1) := by decide +kernel
theorem dX12_isHolding_22 : decode cX12_isHolding 22 = .ok (.iload_n 1, 1) := by decide +kernel
theorem dX12_isHolding_23 : decode cX12_isHolding 23 = .ok (.invokevirtual 155, 3) := by decide +kernel
theorem dX12_isHolding_26 : decode cX12_isHolding 26 = .ok (.imul, 1) := by decide +kernel
theorem dX12_isHolding_27 : decode cX12_isHolding 27 = .ok (.aload_n 0, 1) := by decide +kernel
theorem dX12_isHolding_28 : decode cX12_isHolding 28 = .ok (.iload_n 1, 1) := by decide +kernel
theorem dX12_isHolding_29 : decode cX12_isHolding 29 = .ok (.invokevirtual 174, 3) := by decide +kernel
theorem dX12_isHolding_32 : decode cX12_isHolding 32 = .ok (.imul, 1) := by decide +kernel
theorem dX12_isHolding_33 : decode cX12_isHolding 33 = .ok (.istore_n 3, 1) := by decide +kernel
theorem dX12_isHolding_34 : decode cX12_isHolding 34 = .ok (.aload_n 0, 1) := by decide +kernel
theorem dX12_isHolding_35 : decode cX12_isHolding 35 = .ok (.iload_n 1, 1) := by decide +kernel
theorem dX12_isHolding_36 : decode cX12_isHolding 36 = .ok (.iload_n 2, 1) := by decide +kernel
theorem dX12_isHolding_37 : decode cX12_isHolding 37 = .ok (.invokevirtual 177, 3) := by decide +kernel
theorem dX12_isHolding_40 : decode cX12_isHolding 40 = .ok (.bipush 100, 2) := by decide +kernel
theorem dX12_isHolding_42 : decode cX12_isHolding 42 = .ok (.imul, 1) := by decide +kernel
theorem dX12_isHolding_43 : decode cX12_isHolding 43 = .ok (.aload_n 0, 1) := by decide +kernel
theorem dX12_isHolding_44 : decode cX12_isHolding 44 = .ok (.aload_n 0, 1) := by decide +kernel
theorem dX12_isHolding_45 : decode cX12_isHolding 45 = .ok (.iload_n 1, 1) := by decide +kernel
theorem dX12_isHolding_46 : decode cX12_isHolding 46 = .ok (.iconst 0, 1) := by decide +kernel
theorem dX12_isHolding_47 : decode cX12_isHolding 47 = .ok (.invokevirtual 119, 3) := by decide +kernel
theorem dX12_isHolding_50 : decode cX12_isHolding 50 = .ok (.iconst 1, 1) := by decide +kernel
theorem dX12_isHolding_51 : decode cX12_isHolding 51 = .ok (.invokevirtual 122, 3) := by decide +kernel
theorem dX12_isHolding_54 : decode cX12_isHolding 54 = .ok (.iload_n 3, 1) := by decide +kernel
theorem dX12_isHolding_55 : decode cX12_isHolding 55 = .ok (.imul, 1) := by decide +kernel
theorem dX12_isHolding_56 : decode cX12_isHolding 56 = .ok (.if_icmp .lt 7, 3) := by decide +kernel
theorem dX12_isHolding_59 : decode cX12_isHolding 59 = .ok (.iconst 1, 1) := by decide +kernel
theorem dX12_isHolding_60 : decode cX12_isHolding 60 = .ok (.goto 4, 3) := by decide +kernel
theorem dX12_isHolding_63 : decode cX12_isHolding 63 = .ok (.iconst 0, 1) := by decide +kernel
theorem dX12_isHolding_64 : decode cX12_isHolding 64 = .ok (.ireturn, 1) := by decide +kernel
theorem dX12_layRoster_0 : decode cX12_layRoster 0 = .ok (.aload_n 0, 1) := by decide +kernel
theorem dX12_layRoster_1 : decode cX12_layRoster 1 = .ok (.iconst 0, 1) := by decide +kernel
theorem dX12_layRoster_2 : decode cX12_layRoster 2 = .ok (.putfield 199, 3) := by decide +kernel
theorem dX12_layRoster_5 : decode cX12_layRoster 5 = .ok (.iconst 0, 1) := by decide +kernel
theorem dX12_layRoster_6 : decode cX12_layRoster 6 = .ok (.istore_n 2, 1) := by decide +kernel
theorem dX12_layRoster_7 : decode cX12_layRoster 7 = .ok (.iload_n 2, 1) := by decide +kernel
theorem dX12_layRoster_8 : decode cX12_layRoster 8 = .ok (.aload_n 0, 1) := by decide +kernel
theorem dX12_layRoster_9 : decode cX12_layRoster 9 = .ok (.invokevirtual 113, 3) := by decide +kernel
theorem dX12_layRoster_12 : decode cX12_layRoster 12 = .ok (.if_icmp .ge 39, 3) := by decide +kernel
theorem dX12_layRoster_15 : decode cX12_layRoster 15 = .ok (.aload_n 0, 1) := by decide +kernel
theorem dX12_layRoster_16 : decode cX12_layRoster 16 = .ok (.iload_n 2, 1) := by decide +kernel
theorem dX12_layRoster_17 : decode cX12_layRoster 17 = .ok (.iconst 0, 1) := by decide +kernel
theorem dX12_layRoster_18 : decode cX12_layRoster 18 = .ok (.invokevirtual 119, 3) := by decide +kernel
theorem dX12_layRoster_21 : decode cX12_layRoster 21 = .ok (.iload_n 1, 1) := by decide +kernel
theorem dX12_layRoster_22 : decode cX12_layRoster 22 = .ok (.if_icmp .ne 23, 3) := by decide +kernel
theorem dX12_layRoster_25 : decode cX12_layRoster 25 = .ok (.aload_n 0, 1) := by decide +kernel
theorem dX12_layRoster_26 : decode cX12_layRoster 26 = .ok (.getfield 29, 3) := by decide +kernel
theorem dX12_layRoster_29 : decode cX12_layRoster 29 = .ok (.aload_n 0, 1) := by decide +kernel
theorem dX12_layRoster_30 : decode cX12_layRoster 30 = .ok (.getfield 199, 3) := by decide +kernel
theorem dX12_layRoster_33 : decode cX12_layRoster 33 = .ok (.iload_n 2, 1) := by decide +kernel
theorem dX12_layRoster_34 : decode cX12_layRoster 34 = .ok (.iastore, 1) := by decide +kernel
theorem dX12_layRoster_35 : decode cX12_layRoster 35 = .ok (.aload_n 0, 1) := by decide +kernel
theorem dX12_layRoster_36 : decode cX12_layRoster 36 = .ok (.dup, 1) := by decide +kernel
theorem dX12_layRoster_37 : decode cX12_layRoster 37 = .ok (.getfield 199, 3) := by decide +kernel
theorem dX12_layRoster_40 : decode cX12_layRoster 40 = .ok (.iconst 1, 1) := by decide +kernel
theorem dX12_layRoster_41 : decode cX12_layRoster 41 = .ok (.iadd, 1) := by decide +kernel
theorem dX12_layRoster_42 : decode cX12_layRoster 42 = .ok (.putfield 199, 3) := by decide +kernel
theorem dX12_layRoster_45 : decode cX12_layRoster 45 = .ok (.iinc 2 1, 3) := by decide +kernel
theorem dX12_layRoster_48 : decode cX12_layRoster 48 = .ok (.goto (-41), 3) := by decide +kernel
theorem dX12_layRoster_51 : decode cX12_layRoster 51 = .ok (.return_, 1) := by decide +kernel
theorem dX12_gainOf_0 : decode cX12_gainOf 0 = .ok (.iconst 0, 1) := by decide +kernel
theorem dX12_gainOf_1 : decode cX12_gainOf 1 = .ok (.istore_n 3, 1) := by decide +kernel
theorem dX12_gainOf_2 : decode cX12_gainOf 2 = .ok (.iconst 0, 1) := by decide +kernel
theorem dX12_gainOf_3 : decode cX12_gainOf 3 = .ok (.istore 4, 2) := by decide +kernel
theorem dX12_gainOf_5 : decode cX12_gainOf 5 = .ok (.iconst 0, 1) := by decide +kernel
theorem dX12_gainOf_6 : decode cX12_gainOf 6 = .ok (.istore 5, 2) := by decide +kernel
theorem dX12_gainOf_8 : decode cX12_gainOf 8 = .ok (.iload 5, 2) := by decide +kernel
theorem dX12_gainOf_10 : decode cX12_gainOf 10 = .ok (.aload_n 0, 1) := by decide +kernel
theorem dX12_gainOf_11 : decode cX12_gainOf 11 = .ok (.getfield 199, 3) := by decide +kernel
theorem dX12_gainOf_14 : decode cX12_gainOf 14 = .ok (.if_icmp .ge 59, 3) := by decide +kernel
theorem dX12_gainOf_17 : decode cX12_gainOf 17 = .ok (.iload_n 3, 1) := by decide +kernel
theorem dX12_gainOf_18 : decode cX12_gainOf 18 = .ok (.aload_n 0, 1) := by decide +kernel
theorem dX12_gainOf_19 : decode cX12_gainOf 19 = .ok (.getfield 32, 3) := by decide +kernel
theorem dX12_gainOf_22 : decode cX12_gainOf 22 = .ok (.iload 5, 2) := by decide +kernel
theorem dX12_gainOf_24 : decode cX12_gainOf 24 = .ok (.iaload, 1) := by decide +kernel
theorem dX12_gainOf_25 : decode cX12_gainOf 25 = .ok (.iload_n 2, 1) := by decide +kernel
theorem dX12_gainOf_26 : decode cX12_gainOf 26 = .ok (.if_icmp .ne 17, 3) := by decide +kernel
theorem dX12_gainOf_29 : decode cX12_gainOf 29 = .ok (.aload_n 0, 1) := by decide +kernel
theorem dX12_gainOf_30 : decode cX12_gainOf 30 = .ok (.aload_n 0, 1) := by decide +kernel
theorem dX12_gainOf_31 : decode cX12_gainOf 31 = .ok (.getfield 29, 3) := by decide +kernel
theorem dX12_gainOf_34 : decode cX12_gainOf 34 = .ok (.iload 5, 2) := by decide +kernel
theorem dX12_gainOf_36 : decode cX12_gainOf 36 = .ok (.iaload, 1) := by decide +kernel
theorem dX12_gainOf_37 : decode cX12_gainOf 37 = .ok (.invokevirtual 155, 3) := by decide +kernel
theorem dX12_gainOf_40 : decode cX12_gainOf 40 = .ok (.goto 4, 3) := by decide +kernel
theorem dX12_gainOf_43 : decode cX12_gainOf 43 = .ok (.iconst 0, 1) := by decide +kernel
theorem dX12_gainOf_44 : decode cX12_gainOf 44 = .ok (.iadd, 1) := by decide +kernel
theorem dX12_gainOf_45 : decode cX12_gainOf 45 = .ok (.istore_n 3, 1) := by decide +kernel
theorem dX12_gainOf_46 : decode cX12_gainOf 46 = .ok (.iload 4, 2) := by decide +kernel
theorem dX12_gainOf_48 : decode cX12_gainOf 48 = .ok (.aload_n 0, 1) := by decide +kernel
theorem dX12_gainOf_49 : decode cX12_gainOf 49 = .ok (.getfield 32, 3) := by decide +kernel
theorem dX12_gainOf_52 : decode cX12_gainOf 52 = .ok (.iload 5, 2) := by decide +kernel
theorem dX12_gainOf_54 : decode cX12_gainOf 54 = .ok (.iaload, 1) := by decide +kernel
theorem dX12_gainOf_55 : decode cX12_gainOf 55 = .ok (.iload_n 2, 1) := by decide +kernel
theorem dX12_gainOf_56 : decode cX12_gainOf 56 = .ok (.if_icmp .ne 7, 3) := by decide +kernel
theorem dX12_gainOf_59 : decode cX12_gainOf 59 = .ok (.iconst 1, 1) := by decide +kernel
theorem dX12_gainOf_60 : decode cX12_gainOf 60 = .ok (.goto 4, 3) := by decide +kernel
theorem dX12_gainOf_63 : decode cX12_gainOf 63 = .ok (.iconst 0, 1) := by decide +kernel
theorem dX12_gainOf_64 : decode cX12_gainOf 64 = .ok (.iadd, 1) := by decide +kernel
theorem dX12_gainOf_65 : decode cX12_gainOf 65 = .ok (.istore 4, 2) := by decide +kernel
theorem dX12_gainOf_67 : decode cX12_gainOf 67 = .ok (.iinc 5 1, 3) := by decide +kernel
theorem dX12_gainOf_70 : decode cX12_gainOf 70 = .ok (.goto (-62), 3) := by decide +kernel
theorem dX12_gainOf_73 : decode cX12_gainOf 73 = .ok (.iload 4, 2) := by decide +kernel
theorem dX12_gainOf_75 : decode cX12_gainOf 75 = .ok (.aload_n 0, 1) := by decide +kernel
theorem dX12_gainOf_76 : decode cX12_gainOf 76 = .ok (.iload_n 2, 1) := by decide +kernel
theorem dX12_gainOf_77 : decode cX12_gainOf 77 = .ok (.iload_n 1, 1) := by decide +kernel
theorem dX12_gainOf_78 : decode cX12_gainOf 78 = .ok (.invokevirtual 202, 3) := by decide +kernel
theorem dX12_gainOf_81 : decode cX12_gainOf 81 = .ok (.if_icmp .le 5, 3) := by decide +kernel
theorem dX12_gainOf_84 : decode cX12_gainOf 84 = .ok (.iconst (-1), 1) := by decide +kernel
theorem dX12_gainOf_85 : decode cX12_gainOf 85 = .ok (.ireturn, 1) := by decide +kernel
theorem dX12_gainOf_86 : decode cX12_gainOf 86 = .ok (.bipush 7, 2) := by decide +kernel
theorem dX12_gainOf_88 : decode cX12_gainOf 88 = .ok (.aload_n 0, 1) := by decide +kernel
theorem dX12_gainOf_89 : decode cX12_gainOf 89 = .ok (.iload_n 2, 1) := by decide +kernel
theorem dX12_gainOf_90 : decode cX12_gainOf 90 = .ok (.invokevirtual 158, 3) := by decide +kernel
theorem dX12_gainOf_93 : decode cX12_gainOf 93 = .ok (.iload_n 3, 1) := by decide +kernel
theorem dX12_gainOf_94 : decode cX12_gainOf 94 = .ok (.invokestatic 164, 3) := by decide +kernel
theorem dX12_gainOf_97 : decode cX12_gainOf 97 = .ok (.imul, 1) := by decide +kernel
theorem dX12_gainOf_98 : decode cX12_gainOf 98 = .ok (.aload_n 0, 1) := by decide +kernel
theorem dX12_gainOf_99 : decode cX12_gainOf 99 = .ok (.iload_n 1, 1) := by decide +kernel
theorem dX12_gainOf_100 : decode cX12_gainOf 100 = .ok (.iconst 0, 1) := by decide +kernel
theorem dX12_gainOf_101 : decode cX12_gainOf 101 = .ok (.invokevirtual 122, 3) := by decide +kernel
theorem dX12_gainOf_104 : decode cX12_gainOf 104 = .ok (.imul, 1) := by decide +kernel
theorem dX12_gainOf_105 : decode cX12_gainOf 105 = .ok (.istore 5, 2) := by decide +kernel
theorem dX12_gainOf_107 : decode cX12_gainOf 107 = .ok (.iload 4, 2) := by decide +kernel
theorem dX12_gainOf_109 : decode cX12_gainOf 109 = .ok (.ifCond .ne 7, 3) := by decide +kernel
theorem dX12_gainOf_112 : decode cX12_gainOf 112 = .ok (.iconst 0, 1) := by decide +kernel
theorem dX12_gainOf_113 : decode cX12_gainOf 113 = .ok (.goto 14, 3) := by decide +kernel
theorem dX12_gainOf_116 : decode cX12_gainOf 116 = .ok (.iload 5, 2) := by decide +kernel
theorem dX12_gainOf_118 : decode cX12_gainOf 118 = .ok (.aload_n 0, 1) := by decide +kernel
theorem dX12_gainOf_119 : decode cX12_gainOf 119 = .ok (.iload_n 1, 1) := by decide +kernel
theorem dX12_gainOf_120 : decode cX12_gainOf 120 = .ok (.iload_n 2, 1) := by decide +kernel
theorem dX12_gainOf_121 : decode cX12_gainOf 121 = .ok (.iload 5, 2) := by decide +kernel
theorem dX12_gainOf_123 : decode cX12_gainOf 123 = .ok (.invokevirtual 190, 3) := by decide +kernel
theorem dX12_gainOf_126 : decode cX12_gainOf 126 = .ok (.isub, 1) := by decide +kernel
theorem dX12_gainOf_127 : decode cX12_gainOf 127 = .ok (.ireturn, 1) := by decide +kernel
theorem dX12_triedGain_0 : decode cX12_triedGain 0 = .ok (.iconst 0, 1) := by decide +kernel
theorem dX12_triedGain_1 : decode cX12_triedGain 1 = .ok (.istore_n 2, 1) := by decide +kernel
theorem dX12_triedGain_2 : decode cX12_triedGain 2 = .ok (.iconst 0, 1) := by decide +kernel
theorem dX12_triedGain_3 : decode cX12_triedGain 3 = .ok (.istore_n 3, 1) := by decide +kernel
theorem dX12_triedGain_4 : decode cX12_triedGain 4 = .ok (.iload_n 3, 1) := by decide +kernel
theorem dX12_triedGain_5 : decode cX12_triedGain 5 = .ok (.aload_n 0, 1) := by decide +kernel
theorem dX12_triedGain_6 : decode cX12_triedGain 6 = .ok (.invokevirtual 116, 3) := by decide +kernel
theorem dX12_triedGain_9 : decode cX12_triedGain 9 = .ok (.if_icmp .ge 30, 3) := by decide +kernel
theorem dX12_triedGain_12 : decode cX12_triedGain 12 = .ok (.aload_n 0, 1) := by decide +kernel
theorem dX12_triedGain_13 : decode cX12_triedGain 13 = .ok (.iload_n 1, 1) := by decide +kernel
theorem dX12_triedGain_14 : decode cX12_triedGain 14 = .ok (.iload_n 3, 1) := by decide +kernel
theorem dX12_triedGain_15 : decode cX12_triedGain 15 = .ok (.invokevirtual 205, 3) := by decide +kernel
theorem dX12_triedGain_18 : decode cX12_triedGain 18 = .ok (.istore 4, 2) := by decide +kernel
theorem dX12_triedGain_20 : decode cX12_triedGain 20 = .ok (.iload 4, 2) := by decide +kernel
theorem dX12_triedGain_22 : decode cX12_triedGain 22 = .ok (.iconst (-1), 1) := by decide +kernel
theorem dX12_triedGain_23 : decode cX12_triedGain 23 = .ok (.if_icmp .ne 5, 3) := by decide +kernel
theorem dX12_triedGain_26 : decode cX12_triedGain 26 = .ok (.iconst (-1), 1) := by decide +kernel
theorem dX12_triedGain_27 : decode cX12_triedGain 27 = .ok (.ireturn, 1) := by decide +kernel
theorem dX12_triedGain_28 : decode cX12_triedGain 28 = .ok (.iload_n 2, 1) := by decide +kernel
theorem dX12_triedGain_29 : decode cX12_triedGain 29 = .ok (.iload 4, 2) := by decide +kernel
theorem dX12_triedGain_31 : decode cX12_triedGain 31 = .ok (.iadd, 1) := by decide +kernel
theorem dX12_triedGain_32 : decode cX12_triedGain 32 = .ok (.istore_n 2, 1) := by decide +kernel
theorem dX12_triedGain_33 : decode cX12_triedGain 33 = .ok (.iinc 3 1, 3) := by decide +kernel
theorem dX12_triedGain_36 : decode cX12_triedGain 36 = .ok (.goto (-32), 3) := by decide +kernel
theorem dX12_triedGain_39 : decode cX12_triedGain 39 = .ok (.iload_n 2, 1) := by decide +kernel
theorem dX12_triedGain_40 : decode cX12_triedGain 40 = .ok (.ireturn, 1) := by decide +kernel
theorem dX12_isHeld_0 : decode cX12_isHeld 0 = .ok (.aload_n 0, 1) := by decide +kernel
theorem dX12_isHeld_1 : decode cX12_isHeld 1 = .ok (.iload_n 1, 1) := by decide +kernel
theorem dX12_isHeld_2 : decode cX12_isHeld 2 = .ok (.bipush 7, 2) := by decide +kernel
theorem dX12_isHeld_4 : decode cX12_isHeld 4 = .ok (.invokevirtual 119, 3) := by decide +kernel
theorem dX12_isHeld_7 : decode cX12_isHeld 7 = .ok (.iconst 1, 1) := by decide +kernel
theorem dX12_isHeld_8 : decode cX12_isHeld 8 = .ok (.if_icmp .ne 7, 3) := by decide +kernel
theorem dX12_isHeld_11 : decode cX12_isHeld 11 = .ok (.iconst 1, 1) := by decide +kernel
theorem dX12_isHeld_12 : decode cX12_isHeld 12 = .ok (.goto 4, 3) := by decide +kernel
theorem dX12_isHeld_15 : decode cX12_isHeld 15 = .ok (.iconst 0, 1) := by decide +kernel
theorem dX12_isHeld_16 : decode cX12_isHeld 16 = .ok (.ireturn, 1) := by decide +kernel
theorem dX12_nextTried_0 : decode cX12_nextTried 0 = .ok (.aload_n 0, 1) := by decide +kernel
theorem dX12_nextTried_1 : decode cX12_nextTried 1 = .ok (.getfield 199, 3) := by decide +kernel
theorem dX12_nextTried_4 : decode cX12_nextTried 4 = .ok (.iconst 1, 1) := by decide +kernel
theorem dX12_nextTried_5 : decode cX12_nextTried 5 = .ok (.isub, 1) := by decide +kernel
theorem dX12_nextTried_6 : decode cX12_nextTried 6 = .ok (.istore_n 1, 1) := by decide +kernel
theorem dX12_nextTried_7 : decode cX12_nextTried 7 = .ok (.iload_n 1, 1) := by decide +kernel
theorem dX12_nextTried_8 : decode cX12_nextTried 8 = .ok (.ifCond .lt 59, 3) := by decide +kernel
theorem dX12_nextTried_11 : decode cX12_nextTried 11 = .ok (.aload_n 0, 1) := by decide +kernel
theorem dX12_nextTried_12 : decode cX12_nextTried 12 = .ok (.aload_n 0, 1) := by decide +kernel
theorem dX12_nextTried_13 : decode cX12_nextTried 13 = .ok (.getfield 29, 3) := by decide +kernel
theorem dX12_nextTried_16 : decode cX12_nextTried 16 = .ok (.iload_n 1, 1) := by decide +kernel
theorem dX12_nextTried_17 : decode cX12_nextTried 17 = .ok (.iaload, 1) := by decide +kernel
theorem dX12_nextTried_18 : decode cX12_nextTried 18 = .ok (.invokevirtual 208, 3) := by decide +kernel
theorem dX12_nextTried_21 : decode cX12_nextTried 21 = .ok (.ifCond .eq 6, 3) := by decide +kernel
theorem dX12_nextTried_24 : decode cX12_nextTried 24 = .ok (.goto 37, 3) := by decide +kernel
theorem dX12_nextTried_27 : decode cX12_nextTried 27 = .ok (.aload_n 0, 1) := by decide +kernel
theorem dX12_nextTried_28 : decode cX12_nextTried 28 = .ok (.getfield 32, 3) := by decide +kernel
theorem dX12_nextTried_31 : decode cX12_nextTried 31 = .ok (.iload_n 1, 1) := by decide +kernel
theorem dX12_nextTried_32 : decode cX12_nextTried 32 = .ok (.iaload, 1) := by decide +kernel
theorem dX12_nextTried_33 : decode cX12_nextTried 33 = .ok (.iconst 1, 1) := by decide +kernel
theorem dX12_nextTried_34 : decode cX12_nextTried 34 = .ok (.iadd, 1) := by decide +kernel
theorem dX12_nextTried_35 : decode cX12_nextTried 35 = .ok (.aload_n 0, 1) := by decide +kernel
theorem dX12_nextTried_36 : decode cX12_nextTried 36 = .ok (.invokevirtual 116, 3) := by decide +kernel
theorem dX12_nextTried_39 : decode cX12_nextTried 39 = .ok (.if_icmp .ge 15, 3) := by decide +kernel
theorem dX12_nextTried_42 : decode cX12_nextTried 42 = .ok (.aload_n 0, 1) := by decide +kernel
theorem dX12_nextTried_43 : decode cX12_nextTried 43 = .ok (.getfield 32, 3) := by decide +kernel
theorem dX12_nextTried_46 : decode cX12_nextTried 46 = .ok (.iload_n 1, 1) := by decide +kernel
theorem dX12_nextTried_47 : decode cX12_nextTried 47 = .ok (.dup2, 1) := by decide +kernel
theorem dX12_nextTried_48 : decode cX12_nextTried 48 = .ok (.iaload, 1) := by decide +kernel
theorem dX12_nextTried_49 : decode cX12_nextTried 49 = .ok (.iconst 1, 1) := by decide +kernel
theorem dX12_nextTried_50 : decode cX12_nextTried 50 = .ok (.iadd, 1) := by decide +kernel
theorem dX12_nextTried_51 : decode cX12_nextTried 51 = .ok (.iastore, 1) := by decide +kernel
theorem dX12_nextTried_52 : decode cX12_nextTried 52 = .ok (.iconst 1, 1) := by decide +kernel
theorem dX12_nextTried_53 : decode cX12_nextTried 53 = .ok (.ireturn, 1) := by decide +kernel
theorem dX12_nextTried_54 : decode cX12_nextTried 54 = .ok (.aload_n 0, 1) := by decide +kernel
theorem dX12_nextTried_55 : decode cX12_nextTried 55 = .ok (.getfield 32, 3) := by decide +kernel
theorem dX12_nextTried_58 : decode cX12_nextTried 58 = .ok (.iload_n 1, 1) := by decide +kernel
theorem dX12_nextTried_59 : decode cX12_nextTried 59 = .ok (.iconst (-1), 1) := by decide +kernel
theorem dX12_nextTried_60 : decode cX12_nextTried 60 = .ok (.iastore, 1) := by decide +kernel
theorem dX12_nextTried_61 : decode cX12_nextTried 61 = .ok (.iinc 1 (-1), 3) := by decide +kernel
theorem dX12_nextTried_64 : decode cX12_nextTried 64 = .ok (.goto (-57), 3) := by decide +kernel
theorem dX12_nextTried_67 : decode cX12_nextTried 67 = .ok (.iconst 0, 1) := by decide +kernel
theorem dX12_nextTried_68 : decode cX12_nextTried 68 = .ok (.ireturn, 1) := by decide +kernel
theorem dX12_layBest_0 : decode cX12_layBest 0 = .ok (.aload_n 0, 1) := by decide +kernel
theorem dX12_layBest_1 : decode cX12_layBest 1 = .ok (.iload_n 1, 1) := by decide +kernel
theorem dX12_layBest_2 : decode cX12_layBest 2 = .ok (.invokevirtual 211, 3) := by decide +kernel
theorem dX12_layBest_5 : decode cX12_layBest 5 = .ok (.iconst 0, 1) := by decide +kernel
theorem dX12_layBest_6 : decode cX12_layBest 6 = .ok (.istore_n 2, 1) := by decide +kernel
theorem dX12_layBest_7 : decode cX12_layBest 7 = .ok (.iload_n 2, 1) := by decide +kernel
theorem dX12_layBest_8 : decode cX12_layBest 8 = .ok (.aload_n 0, 1) := by decide +kernel
theorem dX12_layBest_9 : decode cX12_layBest 9 = .ok (.getfield 199, 3) := by decide +kernel
theorem dX12_layBest_12 : decode cX12_layBest 12 = .ok (.if_icmp .ge 43, 3) := by decide +kernel
theorem dX12_layBest_15 : decode cX12_layBest 15 = .ok (.aload_n 0, 1) := by decide +kernel
theorem dX12_layBest_16 : decode cX12_layBest 16 = .ok (.getfield 32, 3) := by decide +kernel
theorem dX12_layBest_19 : decode cX12_layBest 19 = .ok (.iload_n 2, 1) := by decide +kernel
theorem dX12_layBest_20 : decode cX12_layBest 20 = .ok (.aload_n 0, 1) := by decide +kernel
theorem dX12_layBest_21 : decode cX12_layBest 21 = .ok (.aload_n 0, 1) := by decide +kernel
theorem dX12_layBest_22 : decode cX12_layBest 22 = .ok (.getfield 29, 3) := by decide +kernel
theorem dX12_layBest_25 : decode cX12_layBest 25 = .ok (.iload_n 2, 1) := by decide +kernel
theorem dX12_layBest_26 : decode cX12_layBest 26 = .ok (.iaload, 1) := by decide +kernel
theorem dX12_layBest_27 : decode cX12_layBest 27 = .ok (.invokevirtual 208, 3) := by decide +kernel
theorem dX12_layBest_30 : decode cX12_layBest 30 = .ok (.ifCond .eq 17, 3) := by decide +kernel
theorem dX12_layBest_33 : decode cX12_layBest 33 = .ok (.aload_n 0, 1) := by decide +kernel
theorem dX12_layBest_34 : decode cX12_layBest 34 = .ok (.aload_n 0, 1) := by decide +kernel
theorem dX12_layBest_35 : decode cX12_layBest 35 = .ok (.getfield 29, 3) := by decide +kernel
theorem dX12_layBest_38 : decode cX12_layBest 38 = .ok (.iload_n 2, 1) := by decide +kernel
theorem dX12_layBest_39 : decode cX12_layBest 39 = .ok (.iaload, 1) := by decide +kernel
theorem dX12_layBest_40 : decode cX12_layBest 40 = .ok (.iconst 4, 1) := by decide +kernel
theorem dX12_layBest_41 : decode cX12_layBest 41 = .ok (.invokevirtual 119, 3) := by decide +kernel
theorem dX12_layBest_44 : decode cX12_layBest 44 = .ok (.goto 4, 3) := by decide +kernel
theorem dX12_layBest_47 : decode cX12_layBest 47 = .ok (.iconst (-1), 1) := by decide +kernel
theorem dX12_layBest_48 : decode cX12_layBest 48 = .ok (.iastore, 1) := by decide +kernel
theorem dX12_layBest_49 : decode cX12_layBest 49 = .ok (.iinc 2 1, 3) := by decide +kernel
theorem dX12_layBest_52 : decode cX12_layBest 52 = .ok (.goto (-45), 3) := by decide +kernel
theorem dX12_layBest_55 : decode cX12_layBest 55 = .ok (.aload_n 0, 1) := by decide +kernel
theorem dX12_layBest_56 : decode cX12_layBest 56 = .ok (.iconst (-1), 1) := by decide +kernel
theorem dX12_layBest_57 : decode cX12_layBest 57 = .ok (.putfield 215, 3) := by decide +kernel
theorem dX12_layBest_60 : decode cX12_layBest 60 = .ok (.iconst 1, 1) := by decide +kernel
theorem dX12_layBest_61 : decode cX12_layBest 61 = .ok (.istore_n 2, 1) := by decide +kernel
theorem dX12_layBest_62 : decode cX12_layBest 62 = .ok (.iload_n 2, 1) := by decide +kernel
theorem dX12_layBest_63 : decode cX12_layBest 63 = .ok (.ifCond .eq 62, 3) := by decide +kernel
theorem dX12_layBest_66 : decode cX12_layBest 66 = .ok (.aload_n 0, 1) := by decide +kernel
theorem dX12_layBest_67 : decode cX12_layBest 67 = .ok (.iload_n 1, 1) := by decide +kernel
theorem dX12_layBest_68 : decode cX12_layBest 68 = .ok (.invokevirtual 218, 3) := by decide +kernel
theorem dX12_layBest_71 : decode cX12_layBest 71 = .ok (.istore_n 3, 1) := by decide +kernel
theorem dX12_layBest_72 : decode cX12_layBest 72 = .ok (.iload_n 3, 1) := by decide +kernel
theorem dX12_layBest_73 : decode cX12_layBest 73 = .ok (.aload_n 0, 1) := by decide +kernel
theorem dX12_layBest_74 : decode cX12_layBest 74 = .ok (.getfield 215, 3) := by decide +kernel
theorem dX12_layBest_77 : decode cX12_layBest 77 = .ok (.if_icmp .le 40, 3) := by decide +kernel
theorem dX12_layBest_80 : decode cX12_layBest 80 = .ok (.aload_n 0, 1) := by decide +kernel
theorem dX12_layBest_81 : decode cX12_layBest 81 = .ok (.iload_n 3, 1) := by decide +kernel
theorem dX12_layBest_82 : decode cX12_layBest 82 = .ok (.putfield 215, 3) := by decide +kernel
theorem dX12_layBest_85 : decode cX12_layBest 85 = .ok (.iconst 0, 1) := by decide +kernel
theorem dX12_layBest_86 : decode cX12_layBest 86 = .ok (.istore 4, 2) := by decide +kernel
theorem dX12_layBest_88 : decode cX12_layBest 88 = .ok (.iload 4, 2) := by decide +kernel
theorem dX12_layBest_90 : decode cX12_layBest 90 = .ok (.aload_n 0, 1) := by decide +kernel
theorem dX12_layBest_91 : decode cX12_layBest 91 = .ok (.getfield 199, 3) := by decide +kernel
theorem dX12_layBest_94 : decode cX12_layBest 94 = .ok (.if_icmp .ge 23, 3) := by decide +kernel
theorem dX12_layBest_97 : decode cX12_layBest 97 = .ok (.aload_n 0, 1) := by decide +kernel
theorem dX12_layBest_98 : decode cX12_layBest 98 = .ok (.getfield 35, 3) := by decide +kernel
theorem dX12_layBest_101 : decode cX12_layBest 101 = .ok (.iload 4, 2) := by decide +kernel
theorem dX12_layBest_103 : decode cX12_layBest 103 = .ok (.aload_n 0, 1) := by decide +kernel
theorem dX12_layBest_104 : decode cX12_layBest 104 = .ok (.getfield 32, 3) := by decide +kernel
theorem dX12_layBest_107 : decode cX12_layBest 107 = .ok (.iload 4, 2) := by decide +kernel
theorem dX12_layBest_109 : decode cX12_layBest 109 = .ok (.iaload, 1) := by decide +kernel
theorem dX12_layBest_110 : decode cX12_layBest 110 = .ok (.iastore, 1) := by decide +kernel
theorem dX12_layBest_111 : decode cX12_layBest 111 = .ok (.iinc 4 1, 3) := by decide +kernel
theorem dX12_layBest_114 : decode cX12_layBest 114 = .ok (.goto (-26), 3) := by decide +kernel
theorem dX12_layBest_117 : decode cX12_layBest 117 = .ok (.aload_n 0, 1) := by decide +kernel
theorem dX12_layBest_118 : decode cX12_layBest 118 = .ok (.invokevirtual 221, 3) := by decide +kernel
theorem dX12_layBest_121 : decode cX12_layBest 121 = .ok (.istore_n 2, 1) := by decide +kernel
theorem dX12_layBest_122 : decode cX12_layBest 122 = .ok (.goto (-60), 3) := by decide +kernel
theorem dX12_layBest_125 : decode cX12_layBest 125 = .ok (.return_, 1) := by decide +kernel
theorem dX12_gainIn_0 : decode cX12_gainIn 0 = .ok (.aload_n 0, 1) := by decide +kernel
theorem dX12_gainIn_1 : decode cX12_gainIn 1 = .ok (.iload_n 1, 1) := by decide +kernel
theorem dX12_gainIn_2 : decode cX12_gainIn 2 = .ok (.invokevirtual 225, 3) := by decide +kernel
theorem dX12_gainIn_5 : decode cX12_gainIn 5 = .ok (.aload_n 0, 1) := by decide +kernel
theorem dX12_gainIn_6 : decode cX12_gainIn 6 = .ok (.getfield 215, 3) := by decide +kernel
theorem dX12_gainIn_9 : decode cX12_gainIn 9 = .ok (.ireturn, 1) := by decide +kernel
theorem dX12_heldScreens_0 : decode cX12_heldScreens 0 = .ok (.iconst 0, 1) := by decide +kernel
theorem dX12_heldScreens_1 : decode cX12_heldScreens 1 = .ok (.istore_n 3, 1) := by decide +kernel
theorem dX12_heldScreens_2 : decode cX12_heldScreens 2 = .ok (.iconst 0, 1) := by decide +kernel
theorem dX12_heldScreens_3 : decode cX12_heldScreens 3 = .ok (.istore 4, 2) := by decide +kernel
theorem dX12_heldScreens_5 : decode cX12_heldScreens 5 = .ok (.iload 4, 2) := by decide +kernel
theorem dX12_heldScreens_7 : decode cX12_heldScreens 7 = .ok (.aload_n 0, 1) := by decide +kernel
theorem dX12_heldScreens_8 : decode cX12_heldScreens 8 = .ok (.invokevirtual 113, 3) := by decide +kernel
theorem dX12_heldScreens_11 : decode cX12_heldScreens 11 = .ok (.if_icmp .ge 48, 3) := by decide +kernel
theorem dX12_heldScreens_14 : decode cX12_heldScreens 14 = .ok (.iload_n 3, 1) := by decide +kernel
theorem dX12_heldScreens_15 : decode cX12_heldScreens 15 = .ok (.aload_n 0, 1) := by decide +kernel
theorem dX12_heldScreens_16 : decode cX12_heldScreens 16 = .ok (.iload 4, 2) := by decide +kernel
theorem dX12_heldScreens_18 : decode cX12_heldScreens 18 = .ok (.iconst 0, 1) := by decide +kernel
theorem dX12_heldScreens_19 : decode cX12_heldScreens 19 = .ok (.invokevirtual 119, 3) := by decide +kernel
theorem dX12_heldScreens_22 : decode cX12_heldScreens 22 = .ok (.iload_n 1, 1) := by decide +kernel
theorem dX12_heldScreens_23 : decode cX12_heldScreens 23 = .ok (.if_icmp .ne 27, 3) := by decide +kernel
theorem dX12_heldScreens_26 : decode cX12_heldScreens 26 = .ok (.aload_n 0, 1) := by decide +kernel
theorem dX12_heldScreens_27 : decode cX12_heldScreens 27 = .ok (.iload 4, 2) := by decide +kernel
theorem dX12_heldScreens_29 : decode cX12_heldScreens 29 = .ok (.invokevirtual 208, 3) := by decide +kernel
theorem dX12_heldScreens_32 : decode cX12_heldScreens 32 = .ok (.ifCond .eq 18, 3) := by decide +kernel
theorem dX12_heldScreens_35 : decode cX12_heldScreens 35 = .ok (.aload_n 0, 1) := by decide +kernel
theorem dX12_heldScreens_36 : decode cX12_heldScreens 36 = .ok (.iload 4, 2) := by decide +kernel
theorem dX12_heldScreens_38 : decode cX12_heldScreens 38 = .ok (.iconst 4, 1) := by decide +kernel
theorem dX12_heldScreens_39 : decode cX12_heldScreens 39 = .ok (.invokevirtual 119, 3) := by decide +kernel
theorem dX12_heldScreens_42 : decode cX12_heldScreens 42 = .ok (.iload_n 2, 1) := by decide +kernel
theorem dX12_heldScreens_43 : decode cX12_heldScreens 43 = .ok (.if_icmp .ne 7, 3) := by decide +kernel
theorem dX12_heldScreens_46 : decode cX12_heldScreens 46 = .ok (.iconst 1, 1) := by decide +kernel
theorem dX12_heldScreens_47 : decode cX12_heldScreens 47 = .ok (.goto 4, 3) := by decide +kernel
theorem dX12_heldScreens_50 : decode cX12_heldScreens 50 = .ok (.iconst 0, 1) := by decide +kernel
theorem dX12_heldScreens_51 : decode cX12_heldScreens 51 = .ok (.iadd, 1) := by decide +kernel
theorem dX12_heldScreens_52 : decode cX12_heldScreens 52 = .ok (.istore_n 3, 1) := by decide +kernel
theorem dX12_heldScreens_53 : decode cX12_heldScreens 53 = .ok (.iinc 4 1, 3) := by decide +kernel
theorem dX12_heldScreens_56 : decode cX12_heldScreens 56 = .ok (.goto (-51), 3) := by decide +kernel
theorem dX12_heldScreens_59 : decode cX12_heldScreens 59 = .ok (.iload_n 3, 1) := by decide +kernel
theorem dX12_heldScreens_60 : decode cX12_heldScreens 60 = .ok (.ireturn, 1) := by decide +kernel
theorem dX12_canMove_0 : decode cX12_canMove 0 = .ok (.iload_n 2, 1) := by decide +kernel
theorem dX12_canMove_1 : decode cX12_canMove 1 = .ok (.iload_n 3, 1) := by decide +kernel
theorem dX12_canMove_2 : decode cX12_canMove 2 = .ok (.if_icmp .eq 27, 3) := by decide +kernel
theorem dX12_canMove_5 : decode cX12_canMove 5 = .ok (.aload_n 0, 1) := by decide +kernel
theorem dX12_canMove_6 : decode cX12_canMove 6 = .ok (.iload_n 1, 1) := by decide +kernel
theorem dX12_canMove_7 : decode cX12_canMove 7 = .ok (.iload_n 2, 1) := by decide +kernel
theorem dX12_canMove_8 : decode cX12_canMove 8 = .ok (.invokevirtual 202, 3) := by decide +kernel
theorem dX12_canMove_11 : decode cX12_canMove 11 = .ok (.ifCond .le 18, 3) := by decide +kernel
theorem dX12_canMove_14 : decode cX12_canMove 14 = .ok (.aload_n 0, 1) := by decide +kernel
theorem dX12_canMove_15 : decode cX12_canMove 15 = .ok (.iload_n 1, 1) := by decide +kernel
theorem dX12_canMove_16 : decode cX12_canMove 16 = .ok (.iload_n 3, 1) := by decide +kernel
theorem dX12_canMove_17 : decode cX12_canMove 17 = .ok (.invokevirtual 202, 3) := by decide +kernel
theorem dX12_canMove_20 : decode cX12_canMove 20 = .ok (.bipush 9, 2) := by decide +kernel
theorem dX12_canMove_22 : decode cX12_canMove 22 = .ok (.if_icmp .ge 7, 3) := by decide +kernel
theorem dX12_canMove_25 : decode cX12_canMove 25 = .ok (.iconst 1, 1) := by decide +kernel
theorem dX12_canMove_26 : decode cX12_canMove 26 = .ok (.goto 4, 3) := by decide +kernel
theorem dX12_canMove_29 : decode cX12_canMove 29 = .ok (.iconst 0, 1) := by decide +kernel
theorem dX12_canMove_30 : decode cX12_canMove 30 = .ok (.istore 4, 2) := by decide +kernel
theorem dX12_canMove_32 : decode cX12_canMove 32 = .ok (.iload 4, 2) := by decide +kernel
theorem dX12_canMove_34 : decode cX12_canMove 34 = .ok (.ifCond .eq 27, 3) := by decide +kernel
theorem dX12_canMove_37 : decode cX12_canMove 37 = .ok (.iload_n 2, 1) := by decide +kernel
theorem dX12_canMove_38 : decode cX12_canMove 38 = .ok (.iconst (-1), 1) := by decide +kernel
theorem dX12_canMove_39 : decode cX12_canMove 39 = .ok (.if_icmp .eq 18, 3) := by decide +kernel
theorem dX12_canMove_42 : decode cX12_canMove 42 = .ok (.aload_n 0, 1) := by decide +kernel
theorem dX12_canMove_43 : decode cX12_canMove 43 = .ok (.iload_n 2, 1) := by decide +kernel
theorem dX12_canMove_44 : decode cX12_canMove 44 = .ok (.iload_n 1, 1) := by decide +kernel
theorem dX12_canMove_45 : decode cX12_canMove 45 = .ok (.invokevirtual 228, 3) := by decide +kernel
theorem dX12_canMove_48 : decode cX12_canMove 48 = .ok (.aload_n 0, 1) := by decide +kernel
theorem dX12_canMove_49 : decode cX12_canMove 49 = .ok (.iload_n 1, 1) := by decide +kernel
theorem dX12_canMove_50 : decode cX12_canMove 50 = .ok (.iload_n 2, 1) := by decide +kernel
theorem dX12_canMove_51 : decode cX12_canMove 51 = .ok (.invokevirtual 202, 3) := by decide +kernel
theorem dX12_canMove_54 : decode cX12_canMove 54 = .ok (.if_icmp .ge 7, 3) := by decide +kernel
theorem dX12_canMove_57 : decode cX12_canMove 57 = .ok (.iconst 1, 1) := by decide +kernel
theorem dX12_canMove_58 : decode cX12_canMove 58 = .ok (.goto 4, 3) := by decide +kernel
theorem dX12_canMove_61 : decode cX12_canMove 61 = .ok (.iconst 0, 1) := by decide +kernel
theorem dX12_canMove_62 : decode cX12_canMove 62 = .ok (.ireturn, 1) := by decide +kernel
theorem dX12_moreBy_0 : decode cX12_moreBy 0 = .ok (.aload_n 0, 1) := by decide +kernel
theorem dX12_moreBy_1 : decode cX12_moreBy 1 = .ok (.getfield 9, 3) := by decide +kernel
theorem dX12_moreBy_4 : decode cX12_moreBy 4 = .ok (.iload_n 1, 1) := by decide +kernel
theorem dX12_moreBy_5 : decode cX12_moreBy 5 = .ok (.iload_n 2, 1) := by decide +kernel
theorem dX12_moreBy_6 : decode cX12_moreBy 6 = .ok (.invokestatic 102, 3) := by decide +kernel
theorem dX12_moreBy_9 : decode cX12_moreBy 9 = .ok (.dup2, 1) := by decide +kernel
theorem dX12_moreBy_10 : decode cX12_moreBy 10 = .ok (.iaload, 1) := by decide +kernel
theorem dX12_moreBy_11 : decode cX12_moreBy 11 = .ok (.iconst 1, 1) := by decide +kernel
theorem dX12_moreBy_12 : decode cX12_moreBy 12 = .ok (.isub, 1) := by decide +kernel
theorem dX12_moreBy_13 : decode cX12_moreBy 13 = .ok (.iastore, 1) := by decide +kernel
theorem dX12_moreBy_14 : decode cX12_moreBy 14 = .ok (.aload_n 0, 1) := by decide +kernel
theorem dX12_moreBy_15 : decode cX12_moreBy 15 = .ok (.getfield 9, 3) := by decide +kernel
theorem dX12_moreBy_18 : decode cX12_moreBy 18 = .ok (.iload_n 1, 1) := by decide +kernel
theorem dX12_moreBy_19 : decode cX12_moreBy 19 = .ok (.iload_n 3, 1) := by decide +kernel
theorem dX12_moreBy_20 : decode cX12_moreBy 20 = .ok (.invokestatic 102, 3) := by decide +kernel
theorem dX12_moreBy_23 : decode cX12_moreBy 23 = .ok (.dup2, 1) := by decide +kernel
theorem dX12_moreBy_24 : decode cX12_moreBy 24 = .ok (.iaload, 1) := by decide +kernel
theorem dX12_moreBy_25 : decode cX12_moreBy 25 = .ok (.iconst 1, 1) := by decide +kernel
theorem dX12_moreBy_26 : decode cX12_moreBy 26 = .ok (.iadd, 1) := by decide +kernel
theorem dX12_moreBy_27 : decode cX12_moreBy 27 = .ok (.iastore, 1) := by decide +kernel
theorem dX12_moreBy_28 : decode cX12_moreBy 28 = .ok (.iload_n 2, 1) := by decide +kernel
theorem dX12_moreBy_29 : decode cX12_moreBy 29 = .ok (.iconst (-1), 1) := by decide +kernel
theorem dX12_moreBy_30 : decode cX12_moreBy 30 = .ok (.if_icmp .ne 7, 3) := by decide +kernel
theorem dX12_moreBy_33 : decode cX12_moreBy 33 = .ok (.iconst 0, 1) := by decide +kernel
theorem dX12_moreBy_34 : decode cX12_moreBy 34 = .ok (.goto 15, 3) := by decide +kernel
theorem dX12_moreBy_37 : decode cX12_moreBy 37 = .ok (.aload_n 0, 1) := by decide +kernel
theorem dX12_moreBy_38 : decode cX12_moreBy 38 = .ok (.iload_n 2, 1) := by decide +kernel
theorem dX12_moreBy_39 : decode cX12_moreBy 39 = .ok (.invokevirtual 231, 3) := by decide +kernel
theorem dX12_moreBy_42 : decode cX12_moreBy 42 = .ok (.aload_n 0, 1) := by decide +kernel
theorem dX12_moreBy_43 : decode cX12_moreBy 43 = .ok (.getfield 38, 3) := by decide +kernel
theorem dX12_moreBy_46 : decode cX12_moreBy 46 = .ok (.iload_n 2, 1) := by decide +kernel
theorem dX12_moreBy_47 : decode cX12_moreBy 47 = .ok (.iaload, 1) := by decide +kernel
theorem dX12_moreBy_48 : decode cX12_moreBy 48 = .ok (.isub, 1) := by decide +kernel
theorem dX12_moreBy_49 : decode cX12_moreBy 49 = .ok (.istore 4, 2) := by decide +kernel
theorem dX12_moreBy_51 : decode cX12_moreBy 51 = .ok (.iload 4, 2) := by decide +kernel
theorem dX12_moreBy_53 : decode cX12_moreBy 53 = .ok (.iload_n 3, 1) := by decide +kernel
theorem dX12_moreBy_54 : decode cX12_moreBy 54 = .ok (.iconst (-1), 1) := by decide +kernel
theorem dX12_moreBy_55 : decode cX12_moreBy 55 = .ok (.if_icmp .ne 7, 3) := by decide +kernel
theorem dX12_moreBy_58 : decode cX12_moreBy 58 = .ok (.iconst 0, 1) := by decide +kernel
theorem dX12_moreBy_59 : decode cX12_moreBy 59 = .ok (.goto 15, 3) := by decide +kernel
theorem dX12_moreBy_62 : decode cX12_moreBy 62 = .ok (.aload_n 0, 1) := by decide +kernel
theorem dX12_moreBy_63 : decode cX12_moreBy 63 = .ok (.iload_n 3, 1) := by decide +kernel
theorem dX12_moreBy_64 : decode cX12_moreBy 64 = .ok (.invokevirtual 231, 3) := by decide +kernel
theorem dX12_moreBy_67 : decode cX12_moreBy 67 = .ok (.aload_n 0, 1) := by decide +kernel
theorem dX12_moreBy_68 : decode cX12_moreBy 68 = .ok (.getfield 38, 3) := by decide +kernel
theorem dX12_moreBy_71 : decode cX12_moreBy 71 = .ok (.iload_n 3, 1) := by decide +kernel
theorem dX12_moreBy_72 : decode cX12_moreBy 72 = .ok (.iaload, 1) := by decide +kernel
theorem dX12_moreBy_73 : decode cX12_moreBy 73 = .ok (.isub, 1) := by decide +kernel
theorem dX12_moreBy_74 : decode cX12_moreBy 74 = .ok (.iadd, 1) := by decide +kernel
theorem dX12_moreBy_75 : decode cX12_moreBy 75 = .ok (.istore 4, 2) := by decide +kernel
theorem dX12_moreBy_77 : decode cX12_moreBy 77 = .ok (.aload_n 0, 1) := by decide +kernel
theorem dX12_moreBy_78 : decode cX12_moreBy 78 = .ok (.getfield 9, 3) := by decide +kernel
theorem dX12_moreBy_81 : decode cX12_moreBy 81 = .ok (.iload_n 1, 1) := by decide +kernel
theorem dX12_moreBy_82 : decode cX12_moreBy 82 = .ok (.iload_n 2, 1) := by decide +kernel
theorem dX12_moreBy_83 : decode cX12_moreBy 83 = .ok (.invokestatic 102, 3) := by decide +kernel
theorem dX12_moreBy_86 : decode cX12_moreBy 86 = .ok (.dup2, 1) := by decide +kernel
theorem dX12_moreBy_87 : decode cX12_moreBy 87 = .ok (.iaload, 1) := by decide +kernel
theorem dX12_moreBy_88 : decode cX12_moreBy 88 = .ok (.iconst 1, 1) := by decide +kernel
theorem dX12_moreBy_89 : decode cX12_moreBy 89 = .ok (.iadd, 1) := by decide +kernel
theorem dX12_moreBy_90 : decode cX12_moreBy 90 = .ok (.iastore, 1) := by decide +kernel
theorem dX12_moreBy_91 : decode cX12_moreBy 91 = .ok (.aload_n 0, 1) := by decide +kernel
theorem dX12_moreBy_92 : decode cX12_moreBy 92 = .ok (.getfield 9, 3) := by decide +kernel
theorem dX12_moreBy_95 : decode cX12_moreBy 95 = .ok (.iload_n 1, 1) := by decide +kernel
theorem dX12_moreBy_96 : decode cX12_moreBy 96 = .ok (.iload_n 3, 1) := by decide +kernel
theorem dX12_moreBy_97 : decode cX12_moreBy 97 = .ok (.invokestatic 102, 3) := by decide +kernel
theorem dX12_moreBy_100 : decode cX12_moreBy 100 = .ok (.dup2, 1) := by decide +kernel
theorem dX12_moreBy_101 : decode cX12_moreBy 101 = .ok (.iaload, 1) := by decide +kernel
theorem dX12_moreBy_102 : decode cX12_moreBy 102 = .ok (.iconst 1, 1) := by decide +kernel
theorem dX12_moreBy_103 : decode cX12_moreBy 103 = .ok (.isub, 1) := by decide +kernel
theorem dX12_moreBy_104 : decode cX12_moreBy 104 = .ok (.iastore, 1) := by decide +kernel
theorem dX12_moreBy_105 : decode cX12_moreBy 105 = .ok (.iload 4, 2) := by decide +kernel
theorem dX12_moreBy_107 : decode cX12_moreBy 107 = .ok (.ireturn, 1) := by decide +kernel
theorem dX12_bookedScreens_0 : decode cX12_bookedScreens 0 = .ok (.iconst 0, 1) := by decide +kernel
theorem dX12_bookedScreens_1 : decode cX12_bookedScreens 1 = .ok (.istore_n 2, 1) := by decide +kernel
theorem dX12_bookedScreens_2 : decode cX12_bookedScreens 2 = .ok (.iconst 0, 1) := by decide +kernel
theorem dX12_bookedScreens_3 : decode cX12_bookedScreens 3 = .ok (.istore_n 3, 1) := by decide +kernel
theorem dX12_bookedScreens_4 : decode cX12_bookedScreens 4 = .ok (.iload_n 3, 1) := by decide +kernel
theorem dX12_bookedScreens_5 : decode cX12_bookedScreens 5 = .ok (.aload_n 0, 1) := by decide +kernel
theorem dX12_bookedScreens_6 : decode cX12_bookedScreens 6 = .ok (.invokevirtual 113, 3) := by decide +kernel
theorem dX12_bookedScreens_9 : decode cX12_bookedScreens 9 = .ok (.if_icmp .ge 41, 3) := by decide +kernel
theorem dX12_bookedScreens_12 : decode cX12_bookedScreens 12 = .ok (.iload_n 2, 1) := by decide +kernel
theorem dX12_bookedScreens_13 : decode cX12_bookedScreens 13 = .ok (.iload_n 1, 1) := by decide +kernel
theorem dX12_bookedScreens_14 : decode cX12_bookedScreens 14 = .ok (.ifCond .eq 13, 3) := by decide +kernel
theorem dX12_bookedScreens_17 : decode cX12_bookedScreens 17 = .ok (.aload_n 0, 1) := by decide +kernel
theorem dX12_bookedScreens_18 : decode cX12_bookedScreens 18 = .ok (.iload_n 3, 1) := by decide +kernel
theorem dX12_bookedScreens_19 : decode cX12_bookedScreens 19 = .ok (.bipush 7, 2) := by decide +kernel
theorem dX12_bookedScreens_21 : decode cX12_bookedScreens 21 = .ok (.invokevirtual 119, 3) := by decide +kernel
theorem dX12_bookedScreens_24 : decode cX12_bookedScreens 24 = .ok (.goto 18, 3) := by decide +kernel
theorem dX12_bookedScreens_27 : decode cX12_bookedScreens 27 = .ok (.aload_n 0, 1) := by decide +kernel
theorem dX12_bookedScreens_28 : decode cX12_bookedScreens 28 = .ok (.iload_n 3, 1) := by decide +kernel
theorem dX12_bookedScreens_29 : decode cX12_bookedScreens 29 = .ok (.iconst 4, 1) := by decide +kernel
theorem dX12_bookedScreens_30 : decode cX12_bookedScreens 30 = .ok (.invokevirtual 119, 3) := by decide +kernel
theorem dX12_bookedScreens_33 : decode cX12_bookedScreens 33 = .ok (.iconst (-1), 1) := by decide +kernel
theorem dX12_bookedScreens_34 : decode cX12_bookedScreens 34 = .ok (.if_icmp .ne 7, 3) := by decide +kernel
theorem dX12_bookedScreens_37 : decode cX12_bookedScreens 37 = .ok (.iconst 0, 1) := by decide +kernel
theorem dX12_bookedScreens_38 : decode cX12_bookedScreens 38 = .ok (.goto 4, 3) := by decide +kernel
theorem dX12_bookedScreens_41 : decode cX12_bookedScreens 41 = .ok (.iconst 1, 1) := by decide +kernel
theorem dX12_bookedScreens_42 : decode cX12_bookedScreens 42 = .ok (.iadd, 1) := by decide +kernel
theorem dX12_bookedScreens_43 : decode cX12_bookedScreens 43 = .ok (.istore_n 2, 1) := by decide +kernel
theorem dX12_bookedScreens_44 : decode cX12_bookedScreens 44 = .ok (.iinc 3 1, 3) := by decide +kernel
theorem dX12_bookedScreens_47 : decode cX12_bookedScreens 47 = .ok (.goto (-43), 3) := by decide +kernel
theorem dX12_bookedScreens_50 : decode cX12_bookedScreens 50 = .ok (.iload_n 2, 1) := by decide +kernel
theorem dX12_bookedScreens_51 : decode cX12_bookedScreens 51 = .ok (.ireturn, 1) := by decide +kernel
theorem dX12_size_0 : decode cX12_size 0 = .ok (.aload_n 0, 1) := by decide +kernel
theorem dX12_size_1 : decode cX12_size 1 = .ok (.iconst 0, 1) := by decide +kernel
theorem dX12_size_2 : decode cX12_size 2 = .ok (.putfield 89, 3) := by decide +kernel
theorem dX12_size_5 : decode cX12_size 5 = .ok (.iload_n 1, 1) := by decide +kernel
theorem dX12_size_6 : decode cX12_size 6 = .ok (.tableswitch 65 0 7 #[46, 46, 46, 46, 46, 46, 53, 59], 46) := by decide +kernel
theorem dX12_size_52 : decode cX12_size 52 = .ok (.aload_n 0, 1) := by decide +kernel
theorem dX12_size_53 : decode cX12_size 53 = .ok (.getfield 9, 3) := by decide +kernel
theorem dX12_size_56 : decode cX12_size 56 = .ok (.iload_n 1, 1) := by decide +kernel
theorem dX12_size_57 : decode cX12_size 57 = .ok (.iaload, 1) := by decide +kernel
theorem dX12_size_58 : decode cX12_size 58 = .ok (.ireturn, 1) := by decide +kernel
theorem dX12_size_59 : decode cX12_size 59 = .ok (.aload_n 0, 1) := by decide +kernel
theorem dX12_size_60 : decode cX12_size 60 = .ok (.iconst 0, 1) := by decide +kernel
theorem dX12_size_61 : decode cX12_size 61 = .ok (.invokevirtual 234, 3) := by decide +kernel
theorem dX12_size_64 : decode cX12_size 64 = .ok (.ireturn, 1) := by decide +kernel
theorem dX12_size_65 : decode cX12_size 65 = .ok (.aload_n 0, 1) := by decide +kernel
theorem dX12_size_66 : decode cX12_size 66 = .ok (.iconst 1, 1) := by decide +kernel
theorem dX12_size_67 : decode cX12_size 67 = .ok (.invokevirtual 234, 3) := by decide +kernel
theorem dX12_size_70 : decode cX12_size 70 = .ok (.ireturn, 1) := by decide +kernel
theorem dX12_size_71 : decode cX12_size 71 = .ok (.aload_n 0, 1) := by decide +kernel
theorem dX12_size_72 : decode cX12_size 72 = .ok (.iconst 1, 1) := by decide +kernel
theorem dX12_size_73 : decode cX12_size 73 = .ok (.invokevirtual 238, 3) := by decide +kernel
theorem dX12_size_76 : decode cX12_size 76 = .ok (.ireturn, 1) := by decide +kernel
theorem dX12_screensIn_0 : decode cX12_screensIn 0 = .ok (.aload_n 0, 1) := by decide +kernel
theorem dX12_screensIn_1 : decode cX12_screensIn 1 = .ok (.iload_n 1, 1) := by decide +kernel
theorem dX12_screensIn_2 : decode cX12_screensIn 2 = .ok (.invokevirtual 211, 3) := by decide +kernel
theorem dX12_screensIn_5 : decode cX12_screensIn 5 = .ok (.aload_n 0, 1) := by decide +kernel
theorem dX12_screensIn_6 : decode cX12_screensIn 6 = .ok (.getfield 199, 3) := by decide +kernel
theorem dX12_screensIn_9 : decode cX12_screensIn 9 = .ok (.ireturn, 1) := by decide +kernel
theorem dX12_house_0 : decode cX12_house 0 = .ok (.aload_n 0, 1) := by decide +kernel
theorem dX12_house_1 : decode cX12_house 1 = .ok (.iconst 0, 1) := by decide +kernel
theorem dX12_house_2 : decode cX12_house 2 = .ok (.putfield 89, 3) := by decide +kernel
theorem dX12_house_5 : decode cX12_house 5 = .ok (.aload_n 0, 1) := by decide +kernel
theorem dX12_house_6 : decode cX12_house 6 = .ok (.iload_n 1, 1) := by decide +kernel
theorem dX12_house_7 : decode cX12_house 7 = .ok (.invokevirtual 241, 3) := by decide +kernel
theorem dX12_house_10 : decode cX12_house 10 = .ok (.ifCond .ne 9, 3) := by decide +kernel
theorem dX12_house_13 : decode cX12_house 13 = .ok (.aload_n 0, 1) := by decide +kernel
theorem dX12_house_14 : decode cX12_house 14 = .ok (.iconst 1, 1) := by decide +kernel
theorem dX12_house_15 : decode cX12_house 15 = .ok (.invokevirtual 238, 3) := by decide +kernel
theorem dX12_house_18 : decode cX12_house 18 = .ok (.ireturn, 1) := by decide +kernel
theorem dX12_house_19 : decode cX12_house 19 = .ok (.aload_n 0, 1) := by decide +kernel
theorem dX12_house_20 : decode cX12_house 20 = .ok (.invokevirtual 244, 3) := by decide +kernel
theorem dX12_house_23 : decode cX12_house 23 = .ok (.iload_n 2, 1) := by decide +kernel
theorem dX12_house_24 : decode cX12_house 24 = .ok (.tableswitch 85 0 5 #[40, 40, 47, 53, 60, 66], 40) := by decide +kernel
theorem dX12_house_64 : decode cX12_house 64 = .ok (.aload_n 0, 1) := by decide +kernel
theorem dX12_house_65 : decode cX12_house 65 = .ok (.iload_n 1, 1) := by decide +kernel
theorem dX12_house_66 : decode cX12_house 66 = .ok (.iload_n 2, 1) := by decide +kernel
theorem dX12_house_67 : decode cX12_house 67 = .ok (.invokevirtual 122, 3) := by decide +kernel
theorem dX12_house_70 : decode cX12_house 70 = .ok (.ireturn, 1) := by decide +kernel
theorem dX12_house_71 : decode cX12_house 71 = .ok (.aload_n 0, 1) := by decide +kernel
theorem dX12_house_72 : decode cX12_house 72 = .ok (.iload_n 1, 1) := by decide +kernel
theorem dX12_house_73 : decode cX12_house 73 = .ok (.invokevirtual 247, 3) := by decide +kernel
theorem dX12_house_76 : decode cX12_house 76 = .ok (.ireturn, 1) := by decide +kernel
theorem dX12_house_77 : decode cX12_house 77 = .ok (.aload_n 0, 1) := by decide +kernel
theorem dX12_house_78 : decode cX12_house 78 = .ok (.iload_n 1, 1) := by decide +kernel
theorem dX12_house_79 : decode cX12_house 79 = .ok (.iconst (-1), 1) := by decide +kernel
theorem dX12_house_80 : decode cX12_house 80 = .ok (.invokevirtual 187, 3) := by decide +kernel
theorem dX12_house_83 : decode cX12_house 83 = .ok (.ireturn, 1) := by decide +kernel
theorem dX12_house_84 : decode cX12_house 84 = .ok (.aload_n 0, 1) := by decide +kernel
theorem dX12_house_85 : decode cX12_house 85 = .ok (.iload_n 1, 1) := by decide +kernel
theorem dX12_house_86 : decode cX12_house 86 = .ok (.invokevirtual 250, 3) := by decide +kernel
theorem dX12_house_89 : decode cX12_house 89 = .ok (.ireturn, 1) := by decide +kernel
theorem dX12_house_90 : decode cX12_house 90 = .ok (.aload_n 0, 1) := by decide +kernel
theorem dX12_house_91 : decode cX12_house 91 = .ok (.iload_n 1, 1) := by decide +kernel
theorem dX12_house_92 : decode cX12_house 92 = .ok (.iconst (-1), 1) := by decide +kernel
theorem dX12_house_93 : decode cX12_house 93 = .ok (.invokevirtual 187, 3) := by decide +kernel
theorem dX12_house_96 : decode cX12_house 96 = .ok (.aload_n 0, 1) := by decide +kernel
theorem dX12_house_97 : decode cX12_house 97 = .ok (.iload_n 1, 1) := by decide +kernel
theorem dX12_house_98 : decode cX12_house 98 = .ok (.invokevirtual 250, 3) := by decide +kernel
theorem dX12_house_101 : decode cX12_house 101 = .ok (.isub, 1) := by decide +kernel
theorem dX12_house_102 : decode cX12_house 102 = .ok (.aload_n 0, 1) := by decide +kernel
theorem dX12_house_103 : decode cX12_house 103 = .ok (.iload_n 1, 1) := by decide +kernel
theorem dX12_house_104 : decode cX12_house 104 = .ok (.invokevirtual 253, 3) := by decide +kernel
theorem dX12_house_107 : decode cX12_house 107 = .ok (.isub, 1) := by decide +kernel
theorem dX12_house_108 : decode cX12_house 108 = .ok (.ireturn, 1) := by decide +kernel
theorem dX12_house_109 : decode cX12_house 109 = .ok (.aload_n 0, 1) := by decide +kernel
theorem dX12_house_110 : decode cX12_house 110 = .ok (.iconst 1, 1) := by decide +kernel
theorem dX12_house_111 : decode cX12_house 111 = .ok (.invokevirtual 238, 3) := by decide +kernel
theorem dX12_house_114 : decode cX12_house 114 = .ok (.ireturn, 1) := by decide +kernel
theorem dX12_screen_0 : decode cX12_screen 0 = .ok (.aload_n 0, 1) := by decide +kernel
theorem dX12_screen_1 : decode cX12_screen 1 = .ok (.iconst 0, 1) := by decide +kernel
theorem dX12_screen_2 : decode cX12_screen 2 = .ok (.putfield 89, 3) := by decide +kernel
theorem dX12_screen_5 : decode cX12_screen 5 = .ok (.aload_n 0, 1) := by decide +kernel
theorem dX12_screen_6 : decode cX12_screen 6 = .ok (.iload_n 1, 1) := by decide +kernel
theorem dX12_screen_7 : decode cX12_screen 7 = .ok (.invokevirtual 256, 3) := by decide +kernel
theorem dX12_screen_10 : decode cX12_screen 10 = .ok (.ifCond .eq 13, 3) := by decide +kernel
theorem dX12_screen_13 : decode cX12_screen 13 = .ok (.iload_n 2, 1) := by decide +kernel
theorem dX12_screen_14 : decode cX12_screen 14 = .ok (.iconst 0, 1) := by decide +kernel
theorem dX12_screen_15 : decode cX12_screen 15 = .ok (.bipush 8, 2) := by decide +kernel
theorem dX12_screen_17 : decode cX12_screen 17 = .ok (.invokestatic 109, 3) := by decide +kernel
theorem dX12_screen_20 : decode cX12_screen 20 = .ok (.ifCond .ne 9, 3) := by decide +kernel
theorem dX12_screen_23 : decode cX12_screen 23 = .ok (.aload_n 0, 1) := by decide +kernel
theorem dX12_screen_24 : decode cX12_screen 24 = .ok (.iconst 1, 1) := by decide +kernel
theorem dX12_screen_25 : decode cX12_screen 25 = .ok (.invokevirtual 238, 3) := by decide +kernel
theorem dX12_screen_28 : decode cX12_screen 28 = .ok (.ireturn, 1) := by decide +kernel
theorem dX12_screen_29 : decode cX12_screen 29 = .ok (.iload_n 2, 1) := by decide +kernel
theorem dX12_screen_30 : decode cX12_screen 30 = .ok (.bipush 7, 2) := by decide +kernel
theorem dX12_screen_32 : decode cX12_screen 32 = .ok (.if_icmp .gt 10, 3) := by decide +kernel
theorem dX12_screen_35 : decode cX12_screen 35 = .ok (.aload_n 0, 1) := by decide +kernel
theorem dX12_screen_36 : decode cX12_screen 36 = .ok (.iload_n 1, 1) := by decide +kernel
theorem dX12_screen_37 : decode cX12_screen 37 = .ok (.iload_n 2, 1) := by decide +kernel
theorem dX12_screen_38 : decode cX12_screen 38 = .ok (.invokevirtual 119, 3) := by decide +kernel
theorem dX12_screen_41 : decode cX12_screen 41 = .ok (.ireturn, 1) := by decide +kernel
theorem dX12_screen_42 : decode cX12_screen 42 = .ok (.aload_n 0, 1) := by decide +kernel
theorem dX12_screen_43 : decode cX12_screen 43 = .ok (.invokevirtual 244, 3) := by decide +kernel
theorem dX12_screen_46 : decode cX12_screen 46 = .ok (.aload_n 0, 1) := by decide +kernel
theorem dX12_screen_47 : decode cX12_screen 47 = .ok (.iload_n 1, 1) := by decide +kernel
theorem dX12_screen_48 : decode cX12_screen 48 = .ok (.invokevirtual 259, 3) := by decide +kernel
theorem dX12_screen_51 : decode cX12_screen 51 = .ok (.ireturn, 1) := by decide +kernel
theorem dX12_film_0 : decode cX12_film 0 = .ok (.aload_n 0, 1) := by decide +kernel
theorem dX12_film_1 : decode cX12_film 1 = .ok (.iconst 0, 1) := by decide +kernel
theorem dX12_film_2 : decode cX12_film 2 = .ok (.putfield 89, 3) := by decide +kernel
theorem dX12_film_5 : decode cX12_film 5 = .ok (.aload_n 0, 1) := by decide +kernel
theorem dX12_film_6 : decode cX12_film 6 = .ok (.iload_n 1, 1) := by decide +kernel
theorem dX12_film_7 : decode cX12_film 7 = .ok (.invokevirtual 262, 3) := by decide +kernel
theorem dX12_film_10 : decode cX12_film 10 = .ok (.ifCond .ne 9, 3) := by decide +kernel
theorem dX12_film_13 : decode cX12_film 13 = .ok (.aload_n 0, 1) := by decide +kernel
theorem dX12_film_14 : decode cX12_film 14 = .ok (.iconst 1, 1) := by decide +kernel
theorem dX12_film_15 : decode cX12_film 15 = .ok (.invokevirtual 238, 3) := by decide +kernel
theorem dX12_film_18 : decode cX12_film 18 = .ok (.ireturn, 1) := by decide +kernel
theorem dX12_film_19 : decode cX12_film 19 = .ok (.iload_n 2, 1) := by decide +kernel
theorem dX12_film_20 : decode cX12_film 20 = .ok (.tableswitch 86 0 7 #[48, 48, 48, 48, 55, 61, 67, 78], 48) := by decide +kernel
theorem dX12_film_68 : decode cX12_film 68 = .ok (.aload_n 0, 1) := by decide +kernel
theorem dX12_film_69 : decode cX12_film 69 = .ok (.iload_n 1, 1) := by decide +kernel
theorem dX12_film_70 : decode cX12_film 70 = .ok (.iload_n 2, 1) := by decide +kernel
theorem dX12_film_71 : decode cX12_film 71 = .ok (.invokevirtual 148, 3) := by decide +kernel
theorem dX12_film_74 : decode cX12_film 74 = .ok (.ireturn, 1) := by decide +kernel
theorem dX12_film_75 : decode cX12_film 75 = .ok (.aload_n 0, 1) := by decide +kernel
theorem dX12_film_76 : decode cX12_film 76 = .ok (.iload_n 1, 1) := by decide +kernel
theorem dX12_film_77 : decode cX12_film 77 = .ok (.invokevirtual 151, 3) := by decide +kernel
theorem dX12_film_80 : decode cX12_film 80 = .ok (.ireturn, 1) := by decide +kernel
theorem dX12_film_81 : decode cX12_film 81 = .ok (.aload_n 0, 1) := by decide +kernel
theorem dX12_film_82 : decode cX12_film 82 = .ok (.iload_n 1, 1) := by decide +kernel
theorem dX12_film_83 : decode cX12_film 83 = .ok (.invokevirtual 158, 3) := by decide +kernel
theorem dX12_film_86 : decode cX12_film 86 = .ok (.ireturn, 1) := by decide +kernel
theorem dX12_film_87 : decode cX12_film 87 = .ok (.aload_n 0, 1) := by decide +kernel
theorem dX12_film_88 : decode cX12_film 88 = .ok (.invokevirtual 244, 3) := by decide +kernel
theorem dX12_film_91 : decode cX12_film 91 = .ok (.aload_n 0, 1) := by decide +kernel
theorem dX12_film_92 : decode cX12_film 92 = .ok (.iconst (-1), 1) := by decide +kernel
theorem dX12_film_93 : decode cX12_film 93 = .ok (.iload_n 1, 1) := by decide +kernel
theorem dX12_film_94 : decode cX12_film 94 = .ok (.invokevirtual 187, 3) := by decide +kernel
theorem dX12_film_97 : decode cX12_film 97 = .ok (.ireturn, 1) := by decide +kernel
theorem dX12_film_98 : decode cX12_film 98 = .ok (.aload_n 0, 1) := by decide +kernel
theorem dX12_film_99 : decode cX12_film 99 = .ok (.iload_n 1, 1) := by decide +kernel
theorem dX12_film_100 : decode cX12_film 100 = .ok (.bipush 9, 2) := by decide +kernel
theorem dX12_film_102 : decode cX12_film 102 = .ok (.invokevirtual 148, 3) := by decide +kernel
theorem dX12_film_105 : decode cX12_film 105 = .ok (.ireturn, 1) := by decide +kernel
theorem dX12_film_106 : decode cX12_film 106 = .ok (.aload_n 0, 1) := by decide +kernel
theorem dX12_film_107 : decode cX12_film 107 = .ok (.iconst 1, 1) := by decide +kernel
theorem dX12_film_108 : decode cX12_film 108 = .ok (.invokevirtual 238, 3) := by decide +kernel
theorem dX12_film_111 : decode cX12_film 111 = .ok (.ireturn, 1) := by decide +kernel
theorem dX12_term_0 : decode cX12_term 0 = .ok (.aload_n 0, 1) := by decide +kernel
theorem dX12_term_1 : decode cX12_term 1 = .ok (.iconst 0, 1) := by decide +kernel
theorem dX12_term_2 : decode cX12_term 2 = .ok (.putfield 89, 3) := by decide +kernel
theorem dX12_term_5 : decode cX12_term 5 = .ok (.aload_n 0, 1) := by decide +kernel
theorem dX12_term_6 : decode cX12_term 6 = .ok (.iload_n 1, 1) := by decide +kernel
theorem dX12_term_7 : decode cX12_term 7 = .ok (.invokevirtual 262, 3) := by decide +kernel
theorem dX12_term_10 : decode cX12_term 10 = .ok (.ifCond .eq 30, 3) := by decide +kernel
theorem dX12_term_13 : decode cX12_term 13 = .ok (.iload_n 2, 1) := by decide +kernel
theorem dX12_term_14 : decode cX12_term 14 = .ok (.iconst 0, 1) := by decide +kernel
theorem dX12_term_15 : decode cX12_term 15 = .ok (.aload_n 0, 1) := by decide +kernel
theorem dX12_term_16 : decode cX12_term 16 = .ok (.iload_n 1, 1) := by decide +kernel
theorem dX12_term_17 : decode cX12_term 17 = .ok (.iconst 3, 1) := by decide +kernel
theorem dX12_term_18 : decode cX12_term 18 = .ok (.invokevirtual 148, 3) := by decide +kernel
theorem dX12_term_21 : decode cX12_term 21 = .ok (.iconst 1, 1) := by decide +kernel
theorem dX12_term_22 : decode cX12_term 22 = .ok (.isub, 1) := by decide +kernel
theorem dX12_term_23 : decode cX12_term 23 = .ok (.invokestatic 109, 3) := by decide +kernel
theorem dX12_term_26 : decode cX12_term 26 = .ok (.ifCond .eq 14, 3) := by decide +kernel
theorem dX12_term_29 : decode cX12_term 29 = .ok (.aload_n 0, 1) := by decide +kernel
theorem dX12_term_30 : decode cX12_term 30 = .ok (.iload_n 1, 1) := by decide +kernel
theorem dX12_term_31 : decode cX12_term 31 = .ok (.iconst 4, 1) := by decide +kernel
theorem dX12_term_32 : decode cX12_term 32 = .ok (.iload_n 2, 1) := by decide +kernel
theorem dX12_term_33 : decode cX12_term 33 = .ok (.iadd, 1) := by decide +kernel
theorem dX12_term_34 : decode cX12_term 34 = .ok (.invokevirtual 148, 3) := by decide +kernel
theorem dX12_term_37 : decode cX12_term 37 = .ok (.goto 8, 3) := by decide +kernel
theorem dX12_term_40 : decode cX12_term 40 = .ok (.aload_n 0, 1) := by decide +kernel
theorem dX12_term_41 : decode cX12_term 41 = .ok (.iconst 1, 1) := by decide +kernel
theorem dX12_term_42 : decode cX12_term 42 = .ok (.invokevirtual 238, 3) := by decide +kernel
theorem dX12_term_45 : decode cX12_term 45 = .ok (.ireturn, 1) := by decide +kernel
theorem dX12_prints_0 : decode cX12_prints 0 = .ok (.aload_n 0, 1) := by decide +kernel
theorem dX12_prints_1 : decode cX12_prints 1 = .ok (.iconst 0, 1) := by decide +kernel
theorem dX12_prints_2 : decode cX12_prints 2 = .ok (.putfield 89, 3) := by decide +kernel
theorem dX12_prints_5 : decode cX12_prints 5 = .ok (.aload_n 0, 1) := by decide +kernel
theorem dX12_prints_6 : decode cX12_prints 6 = .ok (.iload_n 1, 1) := by decide +kernel
theorem dX12_prints_7 : decode cX12_prints 7 = .ok (.invokevirtual 262, 3) := by decide +kernel
theorem dX12_prints_10 : decode cX12_prints 10 = .ok (.ifCond .eq 20, 3) := by decide +kernel
theorem dX12_prints_13 : decode cX12_prints 13 = .ok (.aload_n 0, 1) := by decide +kernel
theorem dX12_prints_14 : decode cX12_prints 14 = .ok (.iload_n 2, 1) := by decide +kernel
theorem dX12_prints_15 : decode cX12_prints 15 = .ok (.invokevirtual 265, 3) := by decide +kernel
theorem dX12_prints_18 : decode cX12_prints 18 = .ok (.ifCond .eq 12, 3) := by decide +kernel
theorem dX12_prints_21 : decode cX12_prints 21 = .ok (.aload_n 0, 1) := by decide +kernel
theorem dX12_prints_22 : decode cX12_prints 22 = .ok (.iload_n 1, 1) := by decide +kernel
theorem dX12_prints_23 : decode cX12_prints 23 = .ok (.iload_n 2, 1) := by decide +kernel
theorem dX12_prints_24 : decode cX12_prints 24 = .ok (.invokevirtual 202, 3) := by decide +kernel
theorem dX12_prints_27 : decode cX12_prints 27 = .ok (.goto 8, 3) := by decide +kernel
theorem dX12_prints_30 : decode cX12_prints 30 = .ok (.aload_n 0, 1) := by decide +kernel
theorem dX12_prints_31 : decode cX12_prints 31 = .ok (.iconst 1, 1) := by decide +kernel
theorem dX12_prints_32 : decode cX12_prints 32 = .ok (.invokevirtual 238, 3) := by decide +kernel
theorem dX12_prints_35 : decode cX12_prints 35 = .ok (.ireturn, 1) := by decide +kernel
theorem dX12_shown_0 : decode cX12_shown 0 = .ok (.aload_n 0, 1) := by decide +kernel
theorem dX12_shown_1 : decode cX12_shown 1 = .ok (.aload_n 0, 1) := by decide +kernel
theorem dX12_shown_2 : decode cX12_shown 2 = .ok (.iload_n 1, 1) := by decide +kernel
theorem dX12_shown_3 : decode cX12_shown 3 = .ok (.invokevirtual 256, 3) := by decide +kernel
theorem dX12_shown_6 : decode cX12_shown 6 = .ok (.ifCond .ne 7, 3) := by decide +kernel
theorem dX12_shown_9 : decode cX12_shown 9 = .ok (.iconst 1, 1) := by decide +kernel
theorem dX12_shown_10 : decode cX12_shown 10 = .ok (.goto 15, 3) := by decide +kernel
theorem dX12_shown_13 : decode cX12_shown 13 = .ok (.iload_n 2, 1) := by decide +kernel
theorem dX12_shown_14 : decode cX12_shown 14 = .ok (.invokestatic 268, 3) := by decide +kernel
theorem dX12_shown_17 : decode cX12_shown 17 = .ok (.ifCond .eq 7, 3) := by decide +kernel
theorem dX12_shown_20 : decode cX12_shown 20 = .ok (.iconst 0, 1) := by decide +kernel
theorem dX12_shown_21 : decode cX12_shown 21 = .ok (.goto 4, 3) := by decide +kernel
theorem dX12_shown_24 : decode cX12_shown 24 = .ok (.iconst 2, 1) := by decide +kernel
theorem dX12_shown_25 : decode cX12_shown 25 = .ok (.putfield 89, 3) := by decide +kernel
theorem dX12_shown_28 : decode cX12_shown 28 = .ok (.aload_n 0, 1) := by decide +kernel
theorem dX12_shown_29 : decode cX12_shown 29 = .ok (.getfield 89, 3) := by decide +kernel
theorem dX12_shown_32 : decode cX12_shown 32 = .ok (.ifCond .ne 12, 3) := by decide +kernel
theorem dX12_shown_35 : decode cX12_shown 35 = .ok (.aload_n 0, 1) := by decide +kernel
theorem dX12_shown_36 : decode cX12_shown 36 = .ok (.iload_n 1, 1) := by decide +kernel
theorem dX12_shown_37 : decode cX12_shown 37 = .ok (.iload_n 2, 1) := by decide +kernel
theorem dX12_shown_38 : decode cX12_shown 38 = .ok (.invokevirtual 129, 3) := by decide +kernel
theorem dX12_shown_41 : decode cX12_shown 41 = .ok (.goto 4, 3) := by decide +kernel
theorem dX12_shown_44 : decode cX12_shown 44 = .ok (.iconst 0, 1) := by decide +kernel
theorem dX12_shown_45 : decode cX12_shown 45 = .ok (.ireturn, 1) := by decide +kernel
theorem dX12_visitors_0 : decode cX12_visitors 0 = .ok (.aload_n 0, 1) := by decide +kernel
theorem dX12_visitors_1 : decode cX12_visitors 1 = .ok (.aload_n 0, 1) := by decide +kernel
theorem dX12_visitors_2 : decode cX12_visitors 2 = .ok (.iload_n 1, 1) := by decide +kernel
theorem dX12_visitors_3 : decode cX12_visitors 3 = .ok (.invokevirtual 256, 3) := by decide +kernel
theorem dX12_visitors_6 : decode cX12_visitors 6 = .ok (.ifCond .ne 7, 3) := by decide +kernel
theorem dX12_visitors_9 : decode cX12_visitors 9 = .ok (.iconst 1, 1) := by decide +kernel
theorem dX12_visitors_10 : decode cX12_visitors 10 = .ok (.goto 15, 3) := by decide +kernel
theorem dX12_visitors_13 : decode cX12_visitors 13 = .ok (.iload_n 2, 1) := by decide +kernel
theorem dX12_visitors_14 : decode cX12_visitors 14 = .ok (.invokestatic 268, 3) := by decide +kernel
theorem dX12_visitors_17 : decode cX12_visitors 17 = .ok (.ifCond .eq 7, 3) := by decide +kernel
theorem dX12_visitors_20 : decode cX12_visitors 20 = .ok (.iconst 0, 1) := by decide +kernel
theorem dX12_visitors_21 : decode cX12_visitors 21 = .ok (.goto 4, 3) := by decide +kernel
theorem dX12_visitors_24 : decode cX12_visitors 24 = .ok (.iconst 2, 1) := by decide +kernel
theorem dX12_visitors_25 : decode cX12_visitors 25 = .ok (.putfield 89, 3) := by decide +kernel
theorem dX12_visitors_28 : decode cX12_visitors 28 = .ok (.aload_n 0, 1) := by decide +kernel
theorem dX12_visitors_29 : decode cX12_visitors 29 = .ok (.invokevirtual 244, 3) := by decide +kernel
theorem dX12_visitors_32 : decode cX12_visitors 32 = .ok (.aload_n 0, 1) := by decide +kernel
theorem dX12_visitors_33 : decode cX12_visitors 33 = .ok (.getfield 89, 3) := by decide +kernel
theorem dX12_visitors_36 : decode cX12_visitors 36 = .ok (.ifCond .ne 17, 3) := by decide +kernel
theorem dX12_visitors_39 : decode cX12_visitors 39 = .ok (.aload_n 0, 1) := by decide +kernel
theorem dX12_visitors_40 : decode cX12_visitors 40 = .ok (.getfield 22, 3) := by decide +kernel
theorem dX12_visitors_43 : decode cX12_visitors 43 = .ok (.bipush 7, 2) := by decide +kernel
theorem dX12_visitors_45 : decode cX12_visitors 45 = .ok (.iload_n 1, 1) := by decide +kernel
theorem dX12_visitors_46 : decode cX12_visitors 46 = .ok (.imul, 1) := by decide +kernel
theorem dX12_visitors_47 : decode cX12_visitors 47 = .ok (.iload_n 2, 1) := by decide +kernel
theorem dX12_visitors_48 : decode cX12_visitors 48 = .ok (.iadd, 1) := by decide +kernel
theorem dX12_visitors_49 : decode cX12_visitors 49 = .ok (.iaload, 1) := by decide +kernel
theorem dX12_visitors_50 : decode cX12_visitors 50 = .ok (.goto 4, 3) := by decide +kernel
theorem dX12_visitors_53 : decode cX12_visitors 53 = .ok (.iconst 0, 1) := by decide +kernel
theorem dX12_visitors_54 : decode cX12_visitors 54 = .ok (.ireturn, 1) := by decide +kernel
theorem dX12_share_0 : decode cX12_share 0 = .ok (.aload_n 0, 1) := by decide +kernel
theorem dX12_share_1 : decode cX12_share 1 = .ok (.iconst 0, 1) := by decide +kernel
theorem dX12_share_2 : decode cX12_share 2 = .ok (.putfield 89, 3) := by decide +kernel
theorem dX12_share_5 : decode cX12_share 5 = .ok (.aload_n 0, 1) := by decide +kernel
theorem dX12_share_6 : decode cX12_share 6 = .ok (.iload_n 1, 1) := by decide +kernel
theorem dX12_share_7 : decode cX12_share 7 = .ok (.invokevirtual 241, 3) := by decide +kernel
theorem dX12_share_10 : decode cX12_share 10 = .ok (.ifCond .eq 11, 3) := by decide +kernel
theorem dX12_share_13 : decode cX12_share 13 = .ok (.aload_n 0, 1) := by decide +kernel
theorem dX12_share_14 : decode cX12_share 14 = .ok (.iload_n 2, 1) := by decide +kernel
theorem dX12_share_15 : decode cX12_share 15 = .ok (.invokevirtual 262, 3) := by decide +kernel
theorem dX12_share_18 : decode cX12_share 18 = .ok (.ifCond .ne 9, 3) := by decide +kernel
theorem dX12_share_21 : decode cX12_share 21 = .ok (.aload_n 0, 1) := by decide +kernel
theorem dX12_share_22 : decode cX12_share 22 = .ok (.iconst 1, 1) := by decide +kernel
theorem dX12_share_23 : decode cX12_share 23 = .ok (.invokevirtual 238, 3) := by decide +kernel
theorem dX12_share_26 : decode cX12_share 26 = .ok (.ireturn, 1) := by decide +kernel
theorem dX12_share_27 : decode cX12_share 27 = .ok (.aload_n 0, 1) := by decide +kernel
theorem dX12_share_28 : decode cX12_share 28 = .ok (.invokevirtual 244, 3) := by decide +kernel
theorem dX12_share_31 : decode cX12_share 31 = .ok (.aload_n 0, 1) := by decide +kernel
theorem dX12_share_32 : decode cX12_share 32 = .ok (.iload_n 1, 1) := by decide +kernel
theorem dX12_share_33 : decode cX12_share 33 = .ok (.iload_n 2, 1) := by decide +kernel
theorem dX12_share_34 : decode cX12_share 34 = .ok (.invokevirtual 193, 3) := by decide +kernel
theorem dX12_share_37 : decode cX12_share 37 = .ok (.ireturn, 1) := by decide +kernel
theorem dX12_run_0 : decode cX12_run 0 = .ok (.aload_n 0, 1) := by decide +kernel
theorem dX12_run_1 : decode cX12_run 1 = .ok (.iconst 0, 1) := by decide +kernel
theorem dX12_run_2 : decode cX12_run 2 = .ok (.putfield 89, 3) := by decide +kernel
theorem dX12_run_5 : decode cX12_run 5 = .ok (.aload_n 0, 1) := by decide +kernel
theorem dX12_run_6 : decode cX12_run 6 = .ok (.iload_n 1, 1) := by decide +kernel
theorem dX12_run_7 : decode cX12_run 7 = .ok (.invokevirtual 241, 3) := by decide +kernel
theorem dX12_run_10 : decode cX12_run 10 = .ok (.ifCond .eq 24, 3) := by decide +kernel
theorem dX12_run_13 : decode cX12_run 13 = .ok (.aload_n 0, 1) := by decide +kernel
theorem dX12_run_14 : decode cX12_run 14 = .ok (.iload_n 2, 1) := by decide +kernel
theorem dX12_run_15 : decode cX12_run 15 = .ok (.invokevirtual 262, 3) := by decide +kernel
theorem dX12_run_18 : decode cX12_run 18 = .ok (.ifCond .eq 16, 3) := by decide +kernel
theorem dX12_run_21 : decode cX12_run 21 = .ok (.aload_n 0, 1) := by decide +kernel
theorem dX12_run_22 : decode cX12_run 22 = .ok (.getfield 9, 3) := by decide +kernel
theorem dX12_run_25 : decode cX12_run 25 = .ok (.iload_n 1, 1) := by decide +kernel
theorem dX12_run_26 : decode cX12_run 26 = .ok (.iload_n 2, 1) := by decide +kernel
theorem dX12_run_27 : decode cX12_run 27 = .ok (.invokestatic 180, 3) := by decide +kernel
theorem dX12_run_30 : decode cX12_run 30 = .ok (.iaload, 1) := by decide +kernel
theorem dX12_run_31 : decode cX12_run 31 = .ok (.goto 8, 3) := by decide +kernel
theorem dX12_run_34 : decode cX12_run 34 = .ok (.aload_n 0, 1) := by decide +kernel
theorem dX12_run_35 : decode cX12_run 35 = .ok (.iconst 1, 1) := by decide +kernel
theorem dX12_run_36 : decode cX12_run 36 = .ok (.invokevirtual 238, 3) := by decide +kernel
theorem dX12_run_39 : decode cX12_run 39 = .ok (.ireturn, 1) := by decide +kernel
theorem dX12_wouldHold_0 : decode cX12_wouldHold 0 = .ok (.aload_n 0, 1) := by decide +kernel
theorem dX12_wouldHold_1 : decode cX12_wouldHold 1 = .ok (.aload_n 0, 1) := by decide +kernel
theorem dX12_wouldHold_2 : decode cX12_wouldHold 2 = .ok (.iload_n 1, 1) := by decide +kernel
theorem dX12_wouldHold_3 : decode cX12_wouldHold 3 = .ok (.invokevirtual 256, 3) := by decide +kernel
theorem dX12_wouldHold_6 : decode cX12_wouldHold 6 = .ok (.ifCond .eq 7, 3) := by decide +kernel
theorem dX12_wouldHold_9 : decode cX12_wouldHold 9 = .ok (.iconst 0, 1) := by decide +kernel
theorem dX12_wouldHold_10 : decode cX12_wouldHold 10 = .ok (.goto 4, 3) := by decide +kernel
theorem dX12_wouldHold_13 : decode cX12_wouldHold 13 = .ok (.iconst 1, 1) := by decide +kernel
theorem dX12_wouldHold_14 : decode cX12_wouldHold 14 = .ok (.putfield 89, 3) := by decide +kernel
theorem dX12_wouldHold_17 : decode cX12_wouldHold 17 = .ok (.aload_n 0, 1) := by decide +kernel
theorem dX12_wouldHold_18 : decode cX12_wouldHold 18 = .ok (.invokevirtual 244, 3) := by decide +kernel
theorem dX12_wouldHold_21 : decode cX12_wouldHold 21 = .ok (.aload_n 0, 1) := by decide +kernel
theorem dX12_wouldHold_22 : decode cX12_wouldHold 22 = .ok (.getfield 89, 3) := by decide +kernel
theorem dX12_wouldHold_25 : decode cX12_wouldHold 25 = .ok (.ifCond .ne 15, 3) := by decide +kernel
theorem dX12_wouldHold_28 : decode cX12_wouldHold 28 = .ok (.aload_n 0, 1) := by decide +kernel
theorem dX12_wouldHold_29 : decode cX12_wouldHold 29 = .ok (.iload_n 1, 1) := by decide +kernel
theorem dX12_wouldHold_30 : decode cX12_wouldHold 30 = .ok (.invokevirtual 271, 3) := by decide +kernel
theorem dX12_wouldHold_33 : decode cX12_wouldHold 33 = .ok (.ifCond .eq 7, 3) := by decide +kernel
theorem dX12_wouldHold_36 : decode cX12_wouldHold 36 = .ok (.iconst 1, 1) := by decide +kernel
theorem dX12_wouldHold_37 : decode cX12_wouldHold 37 = .ok (.goto 4, 3) := by decide +kernel
theorem dX12_wouldHold_40 : decode cX12_wouldHold 40 = .ok (.iconst 0, 1) := by decide +kernel
theorem dX12_wouldHold_41 : decode cX12_wouldHold 41 = .ok (.ireturn, 1) := by decide +kernel
theorem dX12_forecast_0 : decode cX12_forecast 0 = .ok (.aload_n 0, 1) := by decide +kernel
theorem dX12_forecast_1 : decode cX12_forecast 1 = .ok (.iconst 0, 1) := by decide +kernel
theorem dX12_forecast_2 : decode cX12_forecast 2 = .ok (.putfield 89, 3) := by decide +kernel
theorem dX12_forecast_5 : decode cX12_forecast 5 = .ok (.aload_n 0, 1) := by decide +kernel
theorem dX12_forecast_6 : decode cX12_forecast 6 = .ok (.iload_n 1, 1) := by decide +kernel
theorem dX12_forecast_7 : decode cX12_forecast 7 = .ok (.invokevirtual 256, 3) := by decide +kernel
theorem dX12_forecast_10 : decode cX12_forecast 10 = .ok (.ifCond .eq 11, 3) := by decide +kernel
theorem dX12_forecast_13 : decode cX12_forecast 13 = .ok (.aload_n 0, 1) := by decide +kernel
theorem dX12_forecast_14 : decode cX12_forecast 14 = .ok (.iload_n 2, 1) := by decide +kernel
theorem dX12_forecast_15 : decode cX12_forecast 15 = .ok (.invokevirtual 262, 3) := by decide +kernel
theorem dX12_forecast_18 : decode cX12_forecast 18 = .ok (.ifCond .ne 9, 3) := by decide +kernel
theorem dX12_forecast_21 : decode cX12_forecast 21 = .ok (.aload_n 0, 1) := by decide +kernel
theorem dX12_forecast_22 : decode cX12_forecast 22 = .ok (.iconst 1, 1) := by decide +kernel
theorem dX12_forecast_23 : decode cX12_forecast 23 = .ok (.invokevirtual 238, 3) := by decide +kernel
theorem dX12_forecast_26 : decode cX12_forecast 26 = .ok (.ireturn, 1) := by decide +kernel
theorem dX12_forecast_27 : decode cX12_forecast 27 = .ok (.aload_n 0, 1) := by decide +kernel
theorem dX12_forecast_28 : decode cX12_forecast 28 = .ok (.iload_n 1, 1) := by decide +kernel
theorem dX12_forecast_29 : decode cX12_forecast 29 = .ok (.iconst 4, 1) := by decide +kernel
theorem dX12_forecast_30 : decode cX12_forecast 30 = .ok (.invokevirtual 119, 3) := by decide +kernel
theorem dX12_forecast_33 : decode cX12_forecast 33 = .ok (.istore_n 3, 1) := by decide +kernel
theorem dX12_forecast_34 : decode cX12_forecast 34 = .ok (.aload_n 0, 1) := by decide +kernel
theorem dX12_forecast_35 : decode cX12_forecast 35 = .ok (.iload_n 1, 1) := by decide +kernel
theorem dX12_forecast_36 : decode cX12_forecast 36 = .ok (.iconst 5, 1) := by decide +kernel
theorem dX12_forecast_37 : decode cX12_forecast 37 = .ok (.invokevirtual 119, 3) := by decide +kernel
theorem dX12_forecast_40 : decode cX12_forecast 40 = .ok (.istore 4, 2) := by decide +kernel
theorem dX12_forecast_42 : decode cX12_forecast 42 = .ok (.aload_n 0, 1) := by decide +kernel
theorem dX12_forecast_43 : decode cX12_forecast 43 = .ok (.iload_n 1, 1) := by decide +kernel
theorem dX12_forecast_44 : decode cX12_forecast 44 = .ok (.bipush 6, 2) := by decide +kernel
theorem dX12_forecast_46 : decode cX12_forecast 46 = .ok (.invokevirtual 119, 3) := by decide +kernel
theorem dX12_forecast_49 : decode cX12_forecast 49 = .ok (.istore 5, 2) := by decide +kernel
theorem dX12_forecast_51 : decode cX12_forecast 51 = .ok (.aload_n 0, 1) := by decide +kernel
theorem dX12_forecast_52 : decode cX12_forecast 52 = .ok (.iload_n 1, 1) := by decide +kernel
theorem dX12_forecast_53 : decode cX12_forecast 53 = .ok (.invokevirtual 208, 3) := by decide +kernel
theorem dX12_forecast_56 : decode cX12_forecast 56 = .ok (.istore 6, 2) := by decide +kernel
theorem dX12_forecast_58 : decode cX12_forecast 58 = .ok (.aload_n 0, 1) := by decide +kernel
theorem dX12_forecast_59 : decode cX12_forecast 59 = .ok (.getfield 9, 3) := by decide +kernel
theorem dX12_forecast_62 : decode cX12_forecast 62 = .ok (.iload_n 1, 1) := by decide +kernel
theorem dX12_forecast_63 : decode cX12_forecast 63 = .ok (.iload_n 2, 1) := by decide +kernel
theorem dX12_forecast_64 : decode cX12_forecast 64 = .ok (.iconst (-1), 1) := by decide +kernel
theorem dX12_forecast_65 : decode cX12_forecast 65 = .ok (.iconst 0, 1) := by decide +kernel
theorem dX12_forecast_66 : decode cX12_forecast 66 = .ok (.iload 6, 2) := by decide +kernel
theorem dX12_forecast_68 : decode cX12_forecast 68 = .ok (.invokestatic 274, 3) := by decide +kernel
theorem dX12_forecast_71 : decode cX12_forecast 71 = .ok (.aload_n 0, 1) := by decide +kernel
theorem dX12_forecast_72 : decode cX12_forecast 72 = .ok (.invokevirtual 244, 3) := by decide +kernel
theorem dX12_forecast_75 : decode cX12_forecast 75 = .ok (.aload_n 0, 1) := by decide +kernel
theorem dX12_forecast_76 : decode cX12_forecast 76 = .ok (.getfield 9, 3) := by decide +kernel
theorem dX12_forecast_79 : decode cX12_forecast 79 = .ok (.iload_n 1, 1) := by decide +kernel
theorem dX12_forecast_80 : decode cX12_forecast 80 = .ok (.iload_n 3, 1) := by decide +kernel
theorem dX12_forecast_81 : decode cX12_forecast 81 = .ok (.iload 4, 2) := by decide +kernel
theorem dX12_forecast_83 : decode cX12_forecast 83 = .ok (.iload 5, 2) := by decide +kernel
theorem dX12_forecast_85 : decode cX12_forecast 85 = .ok (.iload 6, 2) := by decide +kernel
theorem dX12_forecast_87 : decode cX12_forecast 87 = .ok (.invokestatic 274, 3) := by decide +kernel
theorem dX12_forecast_90 : decode cX12_forecast 90 = .ok (.aload_n 0, 1) := by decide +kernel
theorem dX12_forecast_91 : decode cX12_forecast 91 = .ok (.iload_n 1, 1) := by decide +kernel
theorem dX12_forecast_92 : decode cX12_forecast 92 = .ok (.invokevirtual 259, 3) := by decide +kernel
theorem dX12_forecast_95 : decode cX12_forecast 95 = .ok (.ireturn, 1) := by decide +kernel
theorem dX12_tookOf_0 : decode cX12_tookOf 0 = .ok (.aload_n 0, 1) := by decide +kernel
theorem dX12_tookOf_1 : decode cX12_tookOf 1 = .ok (.iload_n 1, 1) := by decide +kernel
theorem dX12_tookOf_2 : decode cX12_tookOf 2 = .ok (.bipush 9, 2) := by decide +kernel
theorem dX12_tookOf_4 : decode cX12_tookOf 4 = .ok (.invokevirtual 148, 3) := by decide +kernel
theorem dX12_tookOf_7 : decode cX12_tookOf 7 = .ok (.aload_n 0, 1) := by decide +kernel
theorem dX12_tookOf_8 : decode cX12_tookOf 8 = .ok (.iconst (-1), 1) := by decide +kernel
theorem dX12_tookOf_9 : decode cX12_tookOf 9 = .ok (.iload_n 1, 1) := by decide +kernel
theorem dX12_tookOf_10 : decode cX12_tookOf 10 = .ok (.invokevirtual 187, 3) := by decide +kernel
theorem dX12_tookOf_13 : decode cX12_tookOf 13 = .ok (.iadd, 1) := by decide +kernel
theorem dX12_tookOf_14 : decode cX12_tookOf 14 = .ok (.ireturn, 1) := by decide +kernel
theorem dX12_chart_0 : decode cX12_chart 0 = .ok (.aload_n 0, 1) := by decide +kernel
theorem dX12_chart_1 : decode cX12_chart 1 = .ok (.iconst 0, 1) := by decide +kernel
theorem dX12_chart_2 : decode cX12_chart 2 = .ok (.putfield 89, 3) := by decide +kernel
theorem dX12_chart_5 : decode cX12_chart 5 = .ok (.aload_n 0, 1) := by decide +kernel
theorem dX12_chart_6 : decode cX12_chart 6 = .ok (.invokevirtual 244, 3) := by decide +kernel
theorem dX12_chart_9 : decode cX12_chart 9 = .ok (.iconst 0, 1) := by decide +kernel
theorem dX12_chart_10 : decode cX12_chart 10 = .ok (.istore_n 2, 1) := by decide +kernel
theorem dX12_chart_11 : decode cX12_chart 11 = .ok (.iload_n 2, 1) := by decide +kernel
theorem dX12_chart_12 : decode cX12_chart 12 = .ok (.aload_n 0, 1) := by decide +kernel
theorem dX12_chart_13 : decode cX12_chart 13 = .ok (.invokevirtual 116, 3) := by decide +kernel
theorem dX12_chart_16 : decode cX12_chart 16 = .ok (.if_icmp .ge 76, 3) := by decide +kernel
theorem dX12_chart_19 : decode cX12_chart 19 = .ok (.iconst 0, 1) := by decide +kernel
theorem dX12_chart_20 : decode cX12_chart 20 = .ok (.istore_n 3, 1) := by decide +kernel
theorem dX12_chart_21 : decode cX12_chart 21 = .ok (.iconst 0, 1) := by decide +kernel
theorem dX12_chart_22 : decode cX12_chart 22 = .ok (.istore 4, 2) := by decide +kernel
theorem dX12_chart_24 : decode cX12_chart 24 = .ok (.iload 4, 2) := by decide +kernel
theorem dX12_chart_26 : decode cX12_chart 26 = .ok (.aload_n 0, 1) := by decide +kernel
theorem dX12_chart_27 : decode cX12_chart 27 = .ok (.invokevirtual 116, 3) := by decide +kernel
theorem dX12_chart_30 : decode cX12_chart 30 = .ok (.if_icmp .ge 49, 3) := by decide +kernel
theorem dX12_chart_33 : decode cX12_chart 33 = .ok (.aload_n 0, 1) := by decide +kernel
theorem dX12_chart_34 : decode cX12_chart 34 = .ok (.iload 4, 2) := by decide +kernel
theorem dX12_chart_36 : decode cX12_chart 36 = .ok (.invokevirtual 278, 3) := by decide +kernel
theorem dX12_chart_39 : decode cX12_chart 39 = .ok (.aload_n 0, 1) := by decide +kernel
theorem dX12_chart_40 : decode cX12_chart 40 = .ok (.iload_n 2, 1) := by decide +kernel
theorem dX12_chart_41 : decode cX12_chart 41 = .ok (.invokevirtual 278, 3) := by decide +kernel
theorem dX12_chart_44 : decode cX12_chart 44 = .ok (.invokestatic 281, 3) := by decide +kernel
theorem dX12_chart_47 : decode cX12_chart 47 = .ok (.istore 5, 2) := by decide +kernel
theorem dX12_chart_49 : decode cX12_chart 49 = .ok (.iload_n 3, 1) := by decide +kernel
theorem dX12_chart_50 : decode cX12_chart 50 = .ok (.iload 5, 2) := by decide +kernel
theorem dX12_chart_52 : decode cX12_chart 52 = .ok (.ifCond .gt 14, 3) := by decide +kernel
theorem dX12_chart_55 : decode cX12_chart 55 = .ok (.iload 5, 2) := by decide +kernel
theorem dX12_chart_57 : decode cX12_chart 57 = .ok (.ifCond .ne 13, 3) := by decide +kernel
theorem dX12_chart_60 : decode cX12_chart 60 = .ok (.iload 4, 2) := by decide +kernel
theorem dX12_chart_62 : decode cX12_chart 62 = .ok (.iload_n 2, 1) := by decide +kernel
theorem dX12_chart_63 : decode cX12_chart 63 = .ok (.if_icmp .ge 7, 3) := by decide +kernel
theorem dX12_chart_66 : decode cX12_chart 66 = .ok (.iconst 1, 1) := by decide +kernel
theorem dX12_chart_67 : decode cX12_chart 67 = .ok (.goto 4, 3) := by decide +kernel
theorem dX12_chart_70 : decode cX12_chart 70 = .ok (.iconst 0, 1) := by decide +kernel
theorem dX12_chart_71 : decode cX12_chart 71 = .ok (.iadd, 1) := by decide +kernel
theorem dX12_chart_72 : decode cX12_chart 72 = .ok (.istore_n 3, 1) := by decide +kernel
theorem dX12_chart_73 : decode cX12_chart 73 = .ok (.iinc 4 1, 3) := by decide +kernel
theorem dX12_chart_76 : decode cX12_chart 76 = .ok (.goto (-52), 3) := by decide +kernel
theorem dX12_chart_79 : decode cX12_chart 79 = .ok (.iload_n 3, 1) := by decide +kernel
theorem dX12_chart_80 : decode cX12_chart 80 = .ok (.iload_n 1, 1) := by decide +kernel
theorem dX12_chart_81 : decode cX12_chart 81 = .ok (.if_icmp .ne 5, 3) := by decide +kernel
theorem dX12_chart_84 : decode cX12_chart 84 = .ok (.iload_n 2, 1) := by decide +kernel
theorem dX12_chart_85 : decode cX12_chart 85 = .ok (.ireturn, 1) := by decide +kernel
theorem dX12_chart_86 : decode cX12_chart 86 = .ok (.iinc 2 1, 3) := by decide +kernel
theorem dX12_chart_89 : decode cX12_chart 89 = .ok (.goto (-78), 3) := by decide +kernel
theorem dX12_chart_92 : decode cX12_chart 92 = .ok (.aload_n 0, 1) := by decide +kernel
theorem dX12_chart_93 : decode cX12_chart 93 = .ok (.iconst 1, 1) := by decide +kernel
theorem dX12_chart_94 : decode cX12_chart 94 = .ok (.invokevirtual 238, 3) := by decide +kernel
theorem dX12_chart_97 : decode cX12_chart 97 = .ok (.ireturn, 1) := by decide +kernel
theorem dX12_bestGain_0 : decode cX12_bestGain 0 = .ok (.aload_n 0, 1) := by decide +kernel
theorem dX12_bestGain_1 : decode cX12_bestGain 1 = .ok (.iconst 0, 1) := by decide +kernel
theorem dX12_bestGain_2 : decode cX12_bestGain 2 = .ok (.putfield 89, 3) := by decide +kernel
theorem dX12_bestGain_5 : decode cX12_bestGain 5 = .ok (.aload_n 0, 1) := by decide +kernel
theorem dX12_bestGain_6 : decode cX12_bestGain 6 = .ok (.iload_n 1, 1) := by decide +kernel
theorem dX12_bestGain_7 : decode cX12_bestGain 7 = .ok (.invokevirtual 241, 3) := by decide +kernel
theorem dX12_bestGain_10 : decode cX12_bestGain 10 = .ok (.ifCond .eq 11, 3) := by decide +kernel
theorem dX12_bestGain_13 : decode cX12_bestGain 13 = .ok (.aload_n 0, 1) := by decide +kernel
theorem dX12_bestGain_14 : decode cX12_bestGain 14 = .ok (.iload_n 1, 1) := by decide +kernel
theorem dX12_bestGain_15 : decode cX12_bestGain 15 = .ok (.invokevirtual 231, 3) := by decide +kernel
theorem dX12_bestGain_18 : decode cX12_bestGain 18 = .ok (.goto 8, 3) := by decide +kernel
theorem dX12_bestGain_21 : decode cX12_bestGain 21 = .ok (.aload_n 0, 1) := by decide +kernel
theorem dX12_bestGain_22 : decode cX12_bestGain 22 = .ok (.iconst 1, 1) := by decide +kernel
theorem dX12_bestGain_23 : decode cX12_bestGain 23 = .ok (.invokevirtual 238, 3) := by decide +kernel
theorem dX12_bestGain_26 : decode cX12_bestGain 26 = .ok (.ireturn, 1) := by decide +kernel
theorem dX12_bestFilm_0 : decode cX12_bestFilm 0 = .ok (.aload_n 0, 1) := by decide +kernel
theorem dX12_bestFilm_1 : decode cX12_bestFilm 1 = .ok (.iconst 0, 1) := by decide +kernel
theorem dX12_bestFilm_2 : decode cX12_bestFilm 2 = .ok (.putfield 89, 3) := by decide +kernel
theorem dX12_bestFilm_5 : decode cX12_bestFilm 5 = .ok (.aload_n 0, 1) := by decide +kernel
theorem dX12_bestFilm_6 : decode cX12_bestFilm 6 = .ok (.iload_n 1, 1) := by decide +kernel
theorem dX12_bestFilm_7 : decode cX12_bestFilm 7 = .ok (.invokevirtual 256, 3) := by decide +kernel
theorem dX12_bestFilm_10 : decode cX12_bestFilm 10 = .ok (.ifCond .ne 9, 3) := by decide +kernel
theorem dX12_bestFilm_13 : decode cX12_bestFilm 13 = .ok (.aload_n 0, 1) := by decide +kernel
theorem dX12_bestFilm_14 : decode cX12_bestFilm 14 = .ok (.iconst 1, 1) := by decide +kernel
theorem dX12_bestFilm_15 : decode cX12_bestFilm 15 = .ok (.invokevirtual 238, 3) := by decide +kernel
theorem dX12_bestFilm_18 : decode cX12_bestFilm 18 = .ok (.ireturn, 1) := by decide +kernel
theorem dX12_bestFilm_19 : decode cX12_bestFilm 19 = .ok (.aload_n 0, 1) := by decide +kernel
theorem dX12_bestFilm_20 : decode cX12_bestFilm 20 = .ok (.aload_n 0, 1) := by decide +kernel
theorem dX12_bestFilm_21 : decode cX12_bestFilm 21 = .ok (.iload_n 1, 1) := by decide +kernel
theorem dX12_bestFilm_22 : decode cX12_bestFilm 22 = .ok (.iconst 0, 1) := by decide +kernel
theorem dX12_bestFilm_23 : decode cX12_bestFilm 23 = .ok (.invokevirtual 119, 3) := by decide +kernel
theorem dX12_bestFilm_26 : decode cX12_bestFilm 26 = .ok (.invokevirtual 225, 3) := by decide +kernel
theorem dX12_bestFilm_29 : decode cX12_bestFilm 29 = .ok (.iconst 0, 1) := by decide +kernel
theorem dX12_bestFilm_30 : decode cX12_bestFilm 30 = .ok (.istore_n 2, 1) := by decide +kernel
theorem dX12_bestFilm_31 : decode cX12_bestFilm 31 = .ok (.aload_n 0, 1) := by decide +kernel
theorem dX12_bestFilm_32 : decode cX12_bestFilm 32 = .ok (.getfield 29, 3) := by decide +kernel
theorem dX12_bestFilm_35 : decode cX12_bestFilm 35 = .ok (.iload_n 2, 1) := by decide +kernel
theorem dX12_bestFilm_36 : decode cX12_bestFilm 36 = .ok (.iaload, 1) := by decide +kernel
theorem dX12_bestFilm_37 : decode cX12_bestFilm 37 = .ok (.iload_n 1, 1) := by decide +kernel
theorem dX12_bestFilm_38 : decode cX12_bestFilm 38 = .ok (.if_icmp .eq 9, 3) := by decide +kernel
theorem dX12_bestFilm_41 : decode cX12_bestFilm 41 = .ok (.iinc 2 1, 3) := by decide +kernel
theorem dX12_bestFilm_44 : decode cX12_bestFilm 44 = .ok (.goto (-13), 3) := by decide +kernel
theorem dX12_bestFilm_47 : decode cX12_bestFilm 47 = .ok (.aload_n 0, 1) := by decide +kernel
theorem dX12_bestFilm_48 : decode cX12_bestFilm 48 = .ok (.getfield 35, 3) := by decide +kernel
theorem dX12_bestFilm_51 : decode cX12_bestFilm 51 = .ok (.iload_n 2, 1) := by decide +kernel
theorem dX12_bestFilm_52 : decode cX12_bestFilm 52 = .ok (.iaload, 1) := by decide +kernel
theorem dX12_bestFilm_53 : decode cX12_bestFilm 53 = .ok (.ireturn, 1) := by decide +kernel
theorem dX12_bestMove_0 : decode cX12_bestMove 0 = .ok (.aload_n 0, 1) := by decide +kernel
theorem dX12_bestMove_1 : decode cX12_bestMove 1 = .ok (.iconst 0, 1) := by decide +kernel
theorem dX12_bestMove_2 : decode cX12_bestMove 2 = .ok (.putfield 89, 3) := by decide +kernel
theorem dX12_bestMove_5 : decode cX12_bestMove 5 = .ok (.iconst 0, 1) := by decide +kernel
theorem dX12_bestMove_6 : decode cX12_bestMove 6 = .ok (.istore_n 1, 1) := by decide +kernel
theorem dX12_bestMove_7 : decode cX12_bestMove 7 = .ok (.iload_n 1, 1) := by decide +kernel
theorem dX12_bestMove_8 : decode cX12_bestMove 8 = .ok (.aload_n 0, 1) := by decide +kernel
theorem dX12_bestMove_9 : decode cX12_bestMove 9 = .ok (.invokevirtual 105, 3) := by decide +kernel
theorem dX12_bestMove_12 : decode cX12_bestMove 12 = .ok (.if_icmp .ge 20, 3) := by decide +kernel
theorem dX12_bestMove_15 : decode cX12_bestMove 15 = .ok (.aload_n 0, 1) := by decide +kernel
theorem dX12_bestMove_16 : decode cX12_bestMove 16 = .ok (.getfield 38, 3) := by decide +kernel
theorem dX12_bestMove_19 : decode cX12_bestMove 19 = .ok (.iload_n 1, 1) := by decide +kernel
theorem dX12_bestMove_20 : decode cX12_bestMove 20 = .ok (.aload_n 0, 1) := by decide +kernel
theorem dX12_bestMove_21 : decode cX12_bestMove 21 = .ok (.iload_n 1, 1) := by decide +kernel
theorem dX12_bestMove_22 : decode cX12_bestMove 22 = .ok (.invokevirtual 231, 3) := by decide +kernel
theorem dX12_bestMove_25 : decode cX12_bestMove 25 = .ok (.iastore, 1) := by decide +kernel
theorem dX12_bestMove_26 : decode cX12_bestMove 26 = .ok (.iinc 1 1, 3) := by decide +kernel
theorem dX12_bestMove_29 : decode cX12_bestMove 29 = .ok (.goto (-22), 3) := by decide +kernel
theorem dX12_bestMove_32 : decode cX12_bestMove 32 = .ok (.iconst (-1), 1) := by decide +kernel
theorem dX12_bestMove_33 : decode cX12_bestMove 33 = .ok (.istore_n 1, 1) := by decide +kernel
theorem dX12_bestMove_34 : decode cX12_bestMove 34 = .ok (.iconst 0, 1) := by decide +kernel
theorem dX12_bestMove_35 : decode cX12_bestMove 35 = .ok (.istore_n 2, 1) := by decide +kernel
theorem dX12_bestMove_36 : decode cX12_bestMove 36 = .ok (.iconst 0, 1) := by decide +kernel
theorem dX12_bestMove_37 : decode cX12_bestMove 37 = .ok (.istore_n 3, 1) := by decide +kernel
theorem dX12_bestMove_38 : decode cX12_bestMove 38 = .ok (.iload_n 3, 1) := by decide +kernel
theorem dX12_bestMove_39 : decode cX12_bestMove 39 = .ok (.aload_n 0, 1) := by decide +kernel
theorem dX12_bestMove_40 : decode cX12_bestMove 40 = .ok (.invokevirtual 116, 3) := by decide +kernel
theorem dX12_bestMove_43 : decode cX12_bestMove 43 = .ok (.if_icmp .ge 107, 3) := by decide +kernel
theorem dX12_bestMove_46 : decode cX12_bestMove 46 = .ok (.iconst (-1), 1) := by decide +kernel
theorem dX12_bestMove_47 : decode cX12_bestMove 47 = .ok (.istore 4, 2) := by decide +kernel
theorem dX12_bestMove_49 : decode cX12_bestMove 49 = .ok (.iload 4, 2) := by decide +kernel
theorem dX12_bestMove_51 : decode cX12_bestMove 51 = .ok (.aload_n 0, 1) := by decide +kernel
theorem dX12_bestMove_52 : decode cX12_bestMove 52 = .ok (.invokevirtual 105, 3) := by decide +kernel
theorem dX12_bestMove_55 : decode cX12_bestMove 55 = .ok (.if_icmp .ge 89, 3) := by decide +kernel
theorem dX12_bestMove_58 : decode cX12_bestMove 58 = .ok (.iconst (-1), 1) := by decide +kernel
theorem dX12_bestMove_59 : decode cX12_bestMove 59 = .ok (.istore 5, 2) := by decide +kernel
theorem dX12_bestMove_61 : decode cX12_bestMove 61 = .ok (.iload 5, 2) := by decide +kernel
theorem dX12_bestMove_63 : decode cX12_bestMove 63 = .ok (.aload_n 0, 1) := by decide +kernel
theorem dX12_bestMove_64 : decode cX12_bestMove 64 = .ok (.invokevirtual 105, 3) := by decide +kernel
theorem dX12_bestMove_67 : decode cX12_bestMove 67 = .ok (.if_icmp .ge 71, 3) := by decide +kernel
theorem dX12_bestMove_70 : decode cX12_bestMove 70 = .ok (.aload_n 0, 1) := by decide +kernel
theorem dX12_bestMove_71 : decode cX12_bestMove 71 = .ok (.iload_n 3, 1) := by decide +kernel
theorem dX12_bestMove_72 : decode cX12_bestMove 72 = .ok (.iload 4, 2) := by decide +kernel
theorem dX12_bestMove_74 : decode cX12_bestMove 74 = .ok (.iload 5, 2) := by decide +kernel
theorem dX12_bestMove_76 : decode cX12_bestMove 76 = .ok (.invokevirtual 286, 3) := by decide +kernel
theorem dX12_bestMove_79 : decode cX12_bestMove 79 = .ok (.ifCond .eq 15, 3) := by decide +kernel
theorem dX12_bestMove_82 : decode cX12_bestMove 82 = .ok (.aload_n 0, 1) := by decide +kernel
theorem dX12_bestMove_83 : decode cX12_bestMove 83 = .ok (.iload_n 3, 1) := by decide +kernel
theorem dX12_bestMove_84 : decode cX12_bestMove 84 = .ok (.iload 4, 2) := by decide +kernel
theorem dX12_bestMove_86 : decode cX12_bestMove 86 = .ok (.iload 5, 2) := by decide +kernel
theorem dX12_bestMove_88 : decode cX12_bestMove 88 = .ok (.invokevirtual 289, 3) := by decide +kernel
theorem dX12_bestMove_91 : decode cX12_bestMove 91 = .ok (.goto 4, 3) := by decide +kernel
theorem dX12_bestMove_94 : decode cX12_bestMove 94 = .ok (.iconst 0, 1) := by decide +kernel
theorem dX12_bestMove_95 : decode cX12_bestMove 95 = .ok (.istore 6, 2) := by decide +kernel
theorem dX12_bestMove_97 : decode cX12_bestMove 97 = .ok (.iload 6, 2) := by decide +kernel
theorem dX12_bestMove_99 : decode cX12_bestMove 99 = .ok (.iload_n 2, 1) := by decide +kernel
theorem dX12_bestMove_100 : decode cX12_bestMove 100 = .ok (.if_icmp .le 23, 3) := by decide +kernel
theorem dX12_bestMove_103 : decode cX12_bestMove 103 = .ok (.bipush 100, 2) := by decide +kernel
theorem dX12_bestMove_105 : decode cX12_bestMove 105 = .ok (.iload_n 3, 1) := by decide +kernel
theorem dX12_bestMove_106 : decode cX12_bestMove 106 = .ok (.imul, 1) := by decide +kernel
theorem dX12_bestMove_107 : decode cX12_bestMove 107 = .ok (.bipush 10, 2) := by decide +kernel
theorem dX12_bestMove_109 : decode cX12_bestMove 109 = .ok (.iload 4, 2) := by decide +kernel
theorem dX12_bestMove_111 : decode cX12_bestMove 111 = .ok (.iconst 1, 1) := by decide +kernel
theorem dX12_bestMove_112 : decode cX12_bestMove 112 = .ok (.iadd, 1) := by decide +kernel
theorem dX12_bestMove_113 : decode cX12_bestMove 113 = .ok (.imul, 1) := by decide +kernel
theorem dX12_bestMove_114 : decode cX12_bestMove 114 = .ok (.iadd, 1) := by decide +kernel
theorem dX12_bestMove_115 : decode cX12_bestMove 115 = .ok (.iload 5, 2) := by decide +kernel
theorem dX12_bestMove_117 : decode cX12_bestMove 117 = .ok (.iadd, 1) := by decide +kernel
theorem dX12_bestMove_118 : decode cX12_bestMove 118 = .ok (.iconst 1, 1) := by decide +kernel
theorem dX12_bestMove_119 : decode cX12_bestMove 119 = .ok (.iadd, 1) := by decide +kernel
theorem dX12_bestMove_120 : decode cX12_bestMove 120 = .ok (.goto 4, 3) := by decide +kernel
theorem dX12_bestMove_123 : decode cX12_bestMove 123 = .ok (.iload_n 1, 1) := by decide +kernel
theorem dX12_bestMove_124 : decode cX12_bestMove 124 = .ok (.istore_n 1, 1) := by decide +kernel
theorem dX12_bestMove_125 : decode cX12_bestMove 125 = .ok (.iload_n 2, 1) := by decide +kernel
theorem dX12_bestMove_126 : decode cX12_bestMove 126 = .ok (.iload 6, 2) := by decide +kernel
theorem dX12_bestMove_128 : decode cX12_bestMove 128 = .ok (.invokestatic 140, 3) := by decide +kernel
theorem dX12_bestMove_131 : decode cX12_bestMove 131 = .ok (.istore_n 2, 1) := by decide +kernel
theorem dX12_bestMove_132 : decode cX12_bestMove 132 = .ok (.iinc 5 1, 3) := by decide +kernel
theorem dX12_bestMove_135 : decode cX12_bestMove 135 = .ok (.goto (-74), 3) := by decide +kernel
theorem dX12_bestMove_138 : decode cX12_bestMove 138 = .ok (.iinc 4 1, 3) := by decide +kernel
theorem dX12_bestMove_141 : decode cX12_bestMove 141 = .ok (.goto (-92), 3) := by decide +kernel
theorem dX12_bestMove_144 : decode cX12_bestMove 144 = .ok (.iinc 3 1, 3) := by decide +kernel
theorem dX12_bestMove_147 : decode cX12_bestMove 147 = .ok (.goto (-109), 3) := by decide +kernel
theorem dX12_bestMove_150 : decode cX12_bestMove 150 = .ok (.iload_n 1, 1) := by decide +kernel
theorem dX12_bestMove_151 : decode cX12_bestMove 151 = .ok (.ireturn, 1) := by decide +kernel
theorem dX12_total_0 : decode cX12_total 0 = .ok (.aload_n 0, 1) := by decide +kernel
theorem dX12_total_1 : decode cX12_total 1 = .ok (.iconst 0, 1) := by decide +kernel
theorem dX12_total_2 : decode cX12_total 2 = .ok (.putfield 89, 3) := by decide +kernel
theorem dX12_total_5 : decode cX12_total 5 = .ok (.iload_n 1, 1) := by decide +kernel
theorem dX12_total_6 : decode cX12_total 6 = .ok (.iconst 4, 1) := by decide +kernel
theorem dX12_total_7 : decode cX12_total 7 = .ok (.if_icmp .ne 39, 3) := by decide +kernel
theorem dX12_total_10 : decode cX12_total 10 = .ok (.aload_n 0, 1) := by decide +kernel
theorem dX12_total_11 : decode cX12_total 11 = .ok (.getfield 9, 3) := by decide +kernel
theorem dX12_total_14 : decode cX12_total 14 = .ok (.sipush 208, 3) := by decide +kernel
theorem dX12_total_17 : decode cX12_total 17 = .ok (.iaload, 1) := by decide +kernel
theorem dX12_total_18 : decode cX12_total 18 = .ok (.aload_n 0, 1) := by decide +kernel
theorem dX12_total_19 : decode cX12_total 19 = .ok (.getfield 9, 3) := by decide +kernel
theorem dX12_total_22 : decode cX12_total 22 = .ok (.sipush 209, 3) := by decide +kernel
theorem dX12_total_25 : decode cX12_total 25 = .ok (.iaload, 1) := by decide +kernel
theorem dX12_total_26 : decode cX12_total 26 = .ok (.isub, 1) := by decide +kernel
theorem dX12_total_27 : decode cX12_total 27 = .ok (.aload_n 0, 1) := by decide +kernel
theorem dX12_total_28 : decode cX12_total 28 = .ok (.getfield 9, 3) := by decide +kernel
theorem dX12_total_31 : decode cX12_total 31 = .ok (.sipush 210, 3) := by decide +kernel
theorem dX12_total_34 : decode cX12_total 34 = .ok (.iaload, 1) := by decide +kernel
theorem dX12_total_35 : decode cX12_total 35 = .ok (.isub, 1) := by decide +kernel
theorem dX12_total_36 : decode cX12_total 36 = .ok (.aload_n 0, 1) := by decide +kernel
theorem dX12_total_37 : decode cX12_total 37 = .ok (.getfield 9, 3) := by decide +kernel
theorem dX12_total_40 : decode cX12_total 40 = .ok (.sipush 211, 3) := by decide +kernel
theorem dX12_total_43 : decode cX12_total 43 = .ok (.iaload, 1) := by decide +kernel
theorem dX12_total_44 : decode cX12_total 44 = .ok (.isub, 1) := by decide +kernel
theorem dX12_total_45 : decode cX12_total 45 = .ok (.ireturn, 1) := by decide +kernel
theorem dX12_total_46 : decode cX12_total 46 = .ok (.iload_n 1, 1) := by decide +kernel
theorem dX12_total_47 : decode cX12_total 47 = .ok (.iconst 0, 1) := by decide +kernel
theorem dX12_total_48 : decode cX12_total 48 = .ok (.iconst 3, 1) := by decide +kernel
theorem dX12_total_49 : decode cX12_total 49 = .ok (.invokestatic 109, 3) := by decide +kernel
theorem dX12_total_52 : decode cX12_total 52 = .ok (.ifCond .eq 16, 3) := by decide +kernel
theorem dX12_total_55 : decode cX12_total 55 = .ok (.aload_n 0, 1) := by decide +kernel
theorem dX12_total_56 : decode cX12_total 56 = .ok (.getfield 9, 3) := by decide +kernel
theorem dX12_total_59 : decode cX12_total 59 = .ok (.sipush 208, 3) := by decide +kernel
theorem dX12_total_62 : decode cX12_total 62 = .ok (.iload_n 1, 1) := by decide +kernel
theorem dX12_total_63 : decode cX12_total 63 = .ok (.iadd, 1) := by decide +kernel
theorem dX12_total_64 : decode cX12_total 64 = .ok (.iaload, 1) := by decide +kernel
theorem dX12_total_65 : decode cX12_total 65 = .ok (.goto 8, 3) := by decide +kernel
theorem dX12_total_68 : decode cX12_total 68 = .ok (.aload_n 0, 1) := by decide +kernel
theorem dX12_total_69 : decode cX12_total 69 = .ok (.iconst 1, 1) := by decide +kernel
theorem dX12_total_70 : decode cX12_total 70 = .ok (.invokevirtual 238, 3) := by decide +kernel
theorem dX12_total_73 : decode cX12_total 73 = .ok (.ireturn, 1) := by decide +kernel
theorem dX12_closed_0 : decode cX12_closed 0 = .ok (.aload_n 0, 1) := by decide +kernel
theorem dX12_closed_1 : decode cX12_closed 1 = .ok (.iconst 0, 1) := by decide +kernel
theorem dX12_closed_2 : decode cX12_closed 2 = .ok (.putfield 89, 3) := by decide +kernel
theorem dX12_closed_5 : decode cX12_closed 5 = .ok (.iload_n 1, 1) := by decide +kernel
theorem dX12_closed_6 : decode cX12_closed 6 = .ok (.iconst 0, 1) := by decide +kernel
theorem dX12_closed_7 : decode cX12_closed 7 = .ok (.bipush 20, 2) := by decide +kernel
theorem dX12_closed_9 : decode cX12_closed 9 = .ok (.aload_n 0, 1) := by decide +kernel
theorem dX12_closed_10 : decode cX12_closed 10 = .ok (.getfield 9, 3) := by decide +kernel
theorem dX12_closed_13 : decode cX12_closed 13 = .ok (.iconst 3, 1) := by decide +kernel
theorem dX12_closed_14 : decode cX12_closed 14 = .ok (.iaload, 1) := by decide +kernel
theorem dX12_closed_15 : decode cX12_closed 15 = .ok (.invokestatic 164, 3) := by decide +kernel
theorem dX12_closed_18 : decode cX12_closed 18 = .ok (.iconst 1, 1) := by decide +kernel
theorem dX12_closed_19 : decode cX12_closed 19 = .ok (.isub, 1) := by decide +kernel
theorem dX12_closed_20 : decode cX12_closed 20 = .ok (.invokestatic 109, 3) := by decide +kernel
theorem dX12_closed_23 : decode cX12_closed 23 = .ok (.istore_n 3, 1) := by decide +kernel
theorem dX12_closed_24 : decode cX12_closed 24 = .ok (.iload_n 3, 1) := by decide +kernel
theorem dX12_closed_25 : decode cX12_closed 25 = .ok (.ifCond .eq 29, 3) := by decide +kernel
theorem dX12_closed_28 : decode cX12_closed 28 = .ok (.iload_n 2, 1) := by decide +kernel
theorem dX12_closed_29 : decode cX12_closed 29 = .ok (.iconst 0, 1) := by decide +kernel
theorem dX12_closed_30 : decode cX12_closed 30 = .ok (.iconst 4, 1) := by decide +kernel
theorem dX12_closed_31 : decode cX12_closed 31 = .ok (.invokestatic 109, 3) := by decide +kernel
theorem dX12_closed_34 : decode cX12_closed 34 = .ok (.ifCond .eq 20, 3) := by decide +kernel
theorem dX12_closed_37 : decode cX12_closed 37 = .ok (.aload_n 0, 1) := by decide +kernel
theorem dX12_closed_38 : decode cX12_closed 38 = .ok (.getfield 9, 3) := by decide +kernel
theorem dX12_closed_41 : decode cX12_closed 41 = .ok (.sipush 212, 3) := by decide +kernel
theorem dX12_closed_44 : decode cX12_closed 44 = .ok (.iconst 5, 1) := by decide +kernel
theorem dX12_closed_45 : decode cX12_closed 45 = .ok (.iload_n 1, 1) := by decide +kernel
theorem dX12_closed_46 : decode cX12_closed 46 = .ok (.imul, 1) := by decide +kernel
theorem dX12_closed_47 : decode cX12_closed 47 = .ok (.iadd, 1) := by decide +kernel
theorem dX12_closed_48 : decode cX12_closed 48 = .ok (.iload_n 2, 1) := by decide +kernel
theorem dX12_closed_49 : decode cX12_closed 49 = .ok (.iadd, 1) := by decide +kernel
theorem dX12_closed_50 : decode cX12_closed 50 = .ok (.iaload, 1) := by decide +kernel
theorem dX12_closed_51 : decode cX12_closed 51 = .ok (.goto 8, 3) := by decide +kernel
theorem dX12_closed_54 : decode cX12_closed 54 = .ok (.aload_n 0, 1) := by decide +kernel
theorem dX12_closed_55 : decode cX12_closed 55 = .ok (.iconst 1, 1) := by decide +kernel
theorem dX12_closed_56 : decode cX12_closed 56 = .ok (.invokevirtual 238, 3) := by decide +kernel
theorem dX12_closed_59 : decode cX12_closed 59 = .ok (.ireturn, 1) := by decide +kernel
theorem dX12_meanTakings_0 : decode cX12_meanTakings 0 = .ok (.aload_n 0, 1) := by decide +kernel
theorem dX12_meanTakings_1 : decode cX12_meanTakings 1 = .ok (.iconst 0, 1) := by decide +kernel
theorem dX12_meanTakings_2 : decode cX12_meanTakings 2 = .ok (.putfield 89, 3) := by decide +kernel
theorem dX12_meanTakings_5 : decode cX12_meanTakings 5 = .ok (.aload_n 0, 1) := by decide +kernel
theorem dX12_meanTakings_6 : decode cX12_meanTakings 6 = .ok (.getfield 9, 3) := by decide +kernel
theorem dX12_meanTakings_9 : decode cX12_meanTakings 9 = .ok (.iconst 3, 1) := by decide +kernel
theorem dX12_meanTakings_10 : decode cX12_meanTakings 10 = .ok (.iaload, 1) := by decide +kernel
theorem dX12_meanTakings_11 : decode cX12_meanTakings 11 = .ok (.ifCond .ne 7, 3) := by decide +kernel
theorem dX12_meanTakings_14 : decode cX12_meanTakings 14 = .ok (.dconst 0, 1) := by decide +kernel
theorem dX12_meanTakings_15 : decode cX12_meanTakings 15 = .ok (.goto 20, 3) := by decide +kernel
theorem dX12_meanTakings_18 : decode cX12_meanTakings 18 = .ok (.aload_n 0, 1) := by decide +kernel
theorem dX12_meanTakings_19 : decode cX12_meanTakings 19 = .ok (.getfield 9, 3) := by decide +kernel
theorem dX12_meanTakings_22 : decode cX12_meanTakings 22 = .ok (.sipush 208, 3) := by decide +kernel
theorem dX12_meanTakings_25 : decode cX12_meanTakings 25 = .ok (.iaload, 1) := by decide +kernel
theorem dX12_meanTakings_26 : decode cX12_meanTakings 26 = .ok (.i2d, 1) := by decide +kernel
theorem dX12_meanTakings_27 : decode cX12_meanTakings 27 = .ok (.aload_n 0, 1) := by decide +kernel
theorem dX12_meanTakings_28 : decode cX12_meanTakings 28 = .ok (.getfield 9, 3) := by decide +kernel
theorem dX12_meanTakings_31 : decode cX12_meanTakings 31 = .ok (.iconst 3, 1) := by decide +kernel
theorem dX12_meanTakings_32 : decode cX12_meanTakings 32 = .ok (.iaload, 1) := by decide +kernel
theorem dX12_meanTakings_33 : decode cX12_meanTakings 33 = .ok (.i2d, 1) := by decide +kernel
theorem dX12_meanTakings_34 : decode cX12_meanTakings 34 = .ok (.ddiv, 1) := by decide +kernel
theorem dX12_meanTakings_35 : decode cX12_meanTakings 35 = .ok (.dreturn, 1) := by decide +kernel
theorem dX12_filled_0 : decode cX12_filled 0 = .ok (.aload_n 0, 1) := by decide +kernel
theorem dX12_filled_1 : decode cX12_filled 1 = .ok (.iconst 0, 1) := by decide +kernel
theorem dX12_filled_2 : decode cX12_filled 2 = .ok (.putfield 89, 3) := by decide +kernel
theorem dX12_filled_5 : decode cX12_filled 5 = .ok (.aload_n 0, 1) := by decide +kernel
theorem dX12_filled_6 : decode cX12_filled 6 = .ok (.invokevirtual 244, 3) := by decide +kernel
theorem dX12_filled_9 : decode cX12_filled 9 = .ok (.iconst 0, 1) := by decide +kernel
theorem dX12_filled_10 : decode cX12_filled 10 = .ok (.istore_n 1, 1) := by decide +kernel
theorem dX12_filled_11 : decode cX12_filled 11 = .ok (.iconst 0, 1) := by decide +kernel
theorem dX12_filled_12 : decode cX12_filled 12 = .ok (.istore_n 2, 1) := by decide +kernel
theorem dX12_filled_13 : decode cX12_filled 13 = .ok (.iconst 0, 1) := by decide +kernel
theorem dX12_filled_14 : decode cX12_filled 14 = .ok (.istore_n 3, 1) := by decide +kernel
theorem dX12_filled_15 : decode cX12_filled 15 = .ok (.iload_n 3, 1) := by decide +kernel
theorem dX12_filled_16 : decode cX12_filled 16 = .ok (.aload_n 0, 1) := by decide +kernel
theorem dX12_filled_17 : decode cX12_filled 17 = .ok (.invokevirtual 113, 3) := by decide +kernel
theorem dX12_filled_20 : decode cX12_filled 20 = .ok (.if_icmp .ge 28, 3) := by decide +kernel
theorem dX12_filled_23 : decode cX12_filled 23 = .ok (.iload_n 1, 1) := by decide +kernel
theorem dX12_filled_24 : decode cX12_filled 24 = .ok (.aload_n 0, 1) := by decide +kernel
theorem dX12_filled_25 : decode cX12_filled 25 = .ok (.iload_n 3, 1) := by decide +kernel
theorem dX12_filled_26 : decode cX12_filled 26 = .ok (.invokevirtual 171, 3) := by decide +kernel
theorem dX12_filled_29 : decode cX12_filled 29 = .ok (.iadd, 1) := by decide +kernel
theorem dX12_filled_30 : decode cX12_filled 30 = .ok (.istore_n 1, 1) := by decide +kernel
theorem dX12_filled_31 : decode cX12_filled 31 = .ok (.iload_n 2, 1) := by decide +kernel
theorem dX12_filled_32 : decode cX12_filled 32 = .ok (.bipush 7, 2) := by decide +kernel
theorem dX12_filled_34 : decode cX12_filled 34 = .ok (.aload_n 0, 1) := by decide +kernel
theorem dX12_filled_35 : decode cX12_filled 35 = .ok (.iload_n 3, 1) := by decide +kernel
theorem dX12_filled_36 : decode cX12_filled 36 = .ok (.invokevirtual 155, 3) := by decide +kernel
theorem dX12_filled_39 : decode cX12_filled 39 = .ok (.imul, 1) := by decide +kernel
theorem dX12_filled_40 : decode cX12_filled 40 = .ok (.iadd, 1) := by decide +kernel
theorem dX12_filled_41 : decode cX12_filled 41 = .ok (.istore_n 2, 1) := by decide +kernel
theorem dX12_filled_42 : decode cX12_filled 42 = .ok (.iinc 3 1, 3) := by decide +kernel
theorem dX12_filled_45 : decode cX12_filled 45 = .ok (.goto (-30), 3) := by decide +kernel
theorem dX12_filled_48 : decode cX12_filled 48 = .ok (.aload_n 0, 1) := by decide +kernel
theorem dX12_filled_49 : decode cX12_filled 49 = .ok (.invokevirtual 113, 3) := by decide +kernel
theorem dX12_filled_52 : decode cX12_filled 52 = .ok (.ifCond .ne 7, 3) := by decide +kernel
theorem dX12_filled_55 : decode cX12_filled 55 = .ok (.fconst 0, 1) := by decide +kernel
theorem dX12_filled_56 : decode cX12_filled 56 = .ok (.goto 8, 3) := by decide +kernel
theorem dX12_filled_59 : decode cX12_filled 59 = .ok (.iload_n 1, 1) := by decide +kernel
theorem dX12_filled_60 : decode cX12_filled 60 = .ok (.i2f, 1) := by decide +kernel
theorem dX12_filled_61 : decode cX12_filled 61 = .ok (.iload_n 2, 1) := by decide +kernel
theorem dX12_filled_62 : decode cX12_filled 62 = .ok (.i2f, 1) := by decide +kernel
theorem dX12_filled_63 : decode cX12_filled 63 = .ok (.fdiv, 1) := by decide +kernel
theorem dX12_filled_64 : decode cX12_filled 64 = .ok (.freturn, 1) := by decide +kernel
theorem dX12_tryBooking_0 : decode cX12_tryBooking 0 = .ok (.aload_n 0, 1) := by decide +kernel
theorem dX12_tryBooking_1 : decode cX12_tryBooking 1 = .ok (.iload_n 1, 1) := by decide +kernel
theorem dX12_tryBooking_2 : decode cX12_tryBooking 2 = .ok (.invokevirtual 208, 3) := by decide +kernel
theorem dX12_tryBooking_5 : decode cX12_tryBooking 5 = .ok (.ifCond .eq 6, 3) := by decide +kernel
theorem dX12_tryBooking_8 : decode cX12_tryBooking 8 = .ok (.bipush (-2), 2) := by decide +kernel
theorem dX12_tryBooking_10 : decode cX12_tryBooking 10 = .ok (.ireturn, 1) := by decide +kernel
theorem dX12_tryBooking_11 : decode cX12_tryBooking 11 = .ok (.aload_n 0, 1) := by decide +kernel
theorem dX12_tryBooking_12 : decode cX12_tryBooking 12 = .ok (.iload_n 1, 1) := by decide +kernel
theorem dX12_tryBooking_13 : decode cX12_tryBooking 13 = .ok (.iconst 4, 1) := by decide +kernel
theorem dX12_tryBooking_14 : decode cX12_tryBooking 14 = .ok (.invokevirtual 119, 3) := by decide +kernel
theorem dX12_tryBooking_17 : decode cX12_tryBooking 17 = .ok (.istore 5, 2) := by decide +kernel
theorem dX12_tryBooking_19 : decode cX12_tryBooking 19 = .ok (.aload_n 0, 1) := by decide +kernel
theorem dX12_tryBooking_20 : decode cX12_tryBooking 20 = .ok (.iload_n 1, 1) := by decide +kernel
theorem dX12_tryBooking_21 : decode cX12_tryBooking 21 = .ok (.iconst 5, 1) := by decide +kernel
theorem dX12_tryBooking_22 : decode cX12_tryBooking 22 = .ok (.invokevirtual 119, 3) := by decide +kernel
theorem dX12_tryBooking_25 : decode cX12_tryBooking 25 = .ok (.istore 6, 2) := by decide +kernel
theorem dX12_tryBooking_27 : decode cX12_tryBooking 27 = .ok (.aload_n 0, 1) := by decide +kernel
theorem dX12_tryBooking_28 : decode cX12_tryBooking 28 = .ok (.iload_n 1, 1) := by decide +kernel
theorem dX12_tryBooking_29 : decode cX12_tryBooking 29 = .ok (.bipush 6, 2) := by decide +kernel
theorem dX12_tryBooking_31 : decode cX12_tryBooking 31 = .ok (.invokevirtual 119, 3) := by decide +kernel
theorem dX12_tryBooking_34 : decode cX12_tryBooking 34 = .ok (.istore 7, 2) := by decide +kernel
theorem dX12_tryBooking_36 : decode cX12_tryBooking 36 = .ok (.aload_n 0, 1) := by decide +kernel
theorem dX12_tryBooking_37 : decode cX12_tryBooking 37 = .ok (.iload_n 1, 1) := by decide +kernel
theorem dX12_tryBooking_38 : decode cX12_tryBooking 38 = .ok (.iconst 0, 1) := by decide +kernel
theorem dX12_tryBooking_39 : decode cX12_tryBooking 39 = .ok (.invokevirtual 119, 3) := by decide +kernel
theorem dX12_tryBooking_42 : decode cX12_tryBooking 42 = .ok (.istore 8, 2) := by decide +kernel
theorem dX12_tryBooking_44 : decode cX12_tryBooking 44 = .ok (.aload_n 0, 1) := by decide +kernel
theorem dX12_tryBooking_45 : decode cX12_tryBooking 45 = .ok (.getfield 9, 3) := by decide +kernel
theorem dX12_tryBooking_48 : decode cX12_tryBooking 48 = .ok (.iload_n 1, 1) := by decide +kernel
theorem dX12_tryBooking_49 : decode cX12_tryBooking 49 = .ok (.iload_n 2, 1) := by decide +kernel
theorem dX12_tryBooking_50 : decode cX12_tryBooking 50 = .ok (.iload_n 3, 1) := by decide +kernel
theorem dX12_tryBooking_51 : decode cX12_tryBooking 51 = .ok (.iload 4, 2) := by decide +kernel
theorem dX12_tryBooking_53 : decode cX12_tryBooking 53 = .ok (.iconst 0, 1) := by decide +kernel
theorem dX12_tryBooking_54 : decode cX12_tryBooking 54 = .ok (.invokestatic 274, 3) := by decide +kernel
theorem dX12_tryBooking_57 : decode cX12_tryBooking 57 = .ok (.aload_n 0, 1) := by decide +kernel
theorem dX12_tryBooking_58 : decode cX12_tryBooking 58 = .ok (.iload 8, 2) := by decide +kernel
theorem dX12_tryBooking_60 : decode cX12_tryBooking 60 = .ok (.iload_n 2, 1) := by decide +kernel
theorem dX12_tryBooking_61 : decode cX12_tryBooking 61 = .ok (.invokevirtual 145, 3) := by decide +kernel
theorem dX12_tryBooking_64 : decode cX12_tryBooking 64 = .ok (.aload_n 0, 1) := by decide +kernel
theorem dX12_tryBooking_65 : decode cX12_tryBooking 65 = .ok (.iload_n 2, 1) := by decide +kernel
theorem dX12_tryBooking_66 : decode cX12_tryBooking 66 = .ok (.iload 8, 2) := by decide +kernel
theorem dX12_tryBooking_68 : decode cX12_tryBooking 68 = .ok (.invokevirtual 202, 3) := by decide +kernel
theorem dX12_tryBooking_71 : decode cX12_tryBooking 71 = .ok (.if_icmp .gt 7, 3) := by decide +kernel
theorem dX12_tryBooking_74 : decode cX12_tryBooking 74 = .ok (.iconst 1, 1) := by decide +kernel
theorem dX12_tryBooking_75 : decode cX12_tryBooking 75 = .ok (.goto 4, 3) := by decide +kernel
theorem dX12_tryBooking_78 : decode cX12_tryBooking 78 = .ok (.iconst 0, 1) := by decide +kernel
theorem dX12_tryBooking_79 : decode cX12_tryBooking 79 = .ok (.istore 9, 2) := by decide +kernel
theorem dX12_tryBooking_81 : decode cX12_tryBooking 81 = .ok (.iload 9, 2) := by decide +kernel
theorem dX12_tryBooking_83 : decode cX12_tryBooking 83 = .ok (.ifCond .eq 29, 3) := by decide +kernel
theorem dX12_tryBooking_86 : decode cX12_tryBooking 86 = .ok (.iload_n 3, 1) := by decide +kernel
theorem dX12_tryBooking_87 : decode cX12_tryBooking 87 = .ok (.iconst (-1), 1) := by decide +kernel
theorem dX12_tryBooking_88 : decode cX12_tryBooking 88 = .ok (.if_icmp .eq 20, 3) := by decide +kernel
theorem dX12_tryBooking_91 : decode cX12_tryBooking 91 = .ok (.aload_n 0, 1) := by decide +kernel
theorem dX12_tryBooking_92 : decode cX12_tryBooking 92 = .ok (.iload 8, 2) := by decide +kernel
theorem dX12_tryBooking_94 : decode cX12_tryBooking 94 = .ok (.iload_n 3, 1) := by decide +kernel
theorem dX12_tryBooking_95 : decode cX12_tryBooking 95 = .ok (.invokevirtual 145, 3) := by decide +kernel
theorem dX12_tryBooking_98 : decode cX12_tryBooking 98 = .ok (.aload_n 0, 1) := by decide +kernel
theorem dX12_tryBooking_99 : decode cX12_tryBooking 99 = .ok (.iload_n 3, 1) := by decide +kernel
theorem dX12_tryBooking_100 : decode cX12_tryBooking 100 = .ok (.iload 8, 2) := by decide +kernel
theorem dX12_tryBooking_102 : decode cX12_tryBooking 102 = .ok (.invokevirtual 202, 3) := by decide +kernel
theorem dX12_tryBooking_105 : decode cX12_tryBooking 105 = .ok (.if_icmp .gt 7, 3) := by decide +kernel
theorem dX12_tryBooking_108 : decode cX12_tryBooking 108 = .ok (.iconst 1, 1) := by decide +kernel
theorem dX12_tryBooking_109 : decode cX12_tryBooking 109 = .ok (.goto 4, 3) := by decide +kernel
theorem dX12_tryBooking_112 : decode cX12_tryBooking 112 = .ok (.iconst 0, 1) := by decide +kernel
theorem dX12_tryBooking_113 : decode cX12_tryBooking 113 = .ok (.istore 9, 2) := by decide +kernel
theorem dX12_tryBooking_115 : decode cX12_tryBooking 115 = .ok (.aload_n 0, 1) := by decide +kernel
theorem dX12_tryBooking_116 : decode cX12_tryBooking 116 = .ok (.getfield 9, 3) := by decide +kernel
theorem dX12_tryBooking_119 : decode cX12_tryBooking 119 = .ok (.iload_n 1, 1) := by decide +kernel
theorem dX12_tryBooking_120 : decode cX12_tryBooking 120 = .ok (.iload 5, 2) := by decide +kernel
theorem dX12_tryBooking_122 : decode cX12_tryBooking 122 = .ok (.iload 6, 2) := by decide +kernel
theorem dX12_tryBooking_124 : decode cX12_tryBooking 124 = .ok (.iload 7, 2) := by decide +kernel
theorem dX12_tryBooking_126 : decode cX12_tryBooking 126 = .ok (.iconst 0, 1) := by decide +kernel
theorem dX12_tryBooking_127 : decode cX12_tryBooking 127 = .ok (.invokestatic 274, 3) := by decide +kernel
theorem dX12_tryBooking_130 : decode cX12_tryBooking 130 = .ok (.iload 9, 2) := by decide +kernel
theorem dX12_tryBooking_132 : decode cX12_tryBooking 132 = .ok (.ifCond .ne 6, 3) := by decide +kernel
theorem dX12_tryBooking_135 : decode cX12_tryBooking 135 = .ok (.bipush (-3), 2) := by decide +kernel
theorem dX12_tryBooking_137 : decode cX12_tryBooking 137 = .ok (.ireturn, 1) := by decide +kernel
theorem dX12_tryBooking_138 : decode cX12_tryBooking 138 = .ok (.aload_n 0, 1) := by decide +kernel
theorem dX12_tryBooking_139 : decode cX12_tryBooking 139 = .ok (.invokevirtual 292, 3) := by decide +kernel
theorem dX12_tryBooking_142 : decode cX12_tryBooking 142 = .ok (.aload_n 0, 1) := by decide +kernel
theorem dX12_tryBooking_143 : decode cX12_tryBooking 143 = .ok (.getfield 9, 3) := by decide +kernel
theorem dX12_tryBooking_146 : decode cX12_tryBooking 146 = .ok (.iload_n 1, 1) := by decide +kernel
theorem dX12_tryBooking_147 : decode cX12_tryBooking 147 = .ok (.iload_n 2, 1) := by decide +kernel
theorem dX12_tryBooking_148 : decode cX12_tryBooking 148 = .ok (.iload_n 3, 1) := by decide +kernel
theorem dX12_tryBooking_149 : decode cX12_tryBooking 149 = .ok (.iload 4, 2) := by decide +kernel
theorem dX12_tryBooking_151 : decode cX12_tryBooking 151 = .ok (.iconst 0, 1) := by decide +kernel
theorem dX12_tryBooking_152 : decode cX12_tryBooking 152 = .ok (.invokestatic 274, 3) := by decide +kernel
theorem dX12_tryBooking_155 : decode cX12_tryBooking 155 = .ok (.aload_n 0, 1) := by decide +kernel
theorem dX12_tryBooking_156 : decode cX12_tryBooking 156 = .ok (.invokevirtual 244, 3) := by decide +kernel
theorem dX12_tryBooking_159 : decode cX12_tryBooking 159 = .ok (.aload_n 0, 1) := by decide +kernel
theorem dX12_tryBooking_160 : decode cX12_tryBooking 160 = .ok (.iload_n 1, 1) := by decide +kernel
theorem dX12_tryBooking_161 : decode cX12_tryBooking 161 = .ok (.invokevirtual 259, 3) := by decide +kernel
theorem dX12_tryBooking_164 : decode cX12_tryBooking 164 = .ok (.ireturn, 1) := by decide +kernel
theorem dX12_book__0 : decode cX12_book_ 0 = .ok (.aload_n 0, 1) := by decide +kernel
theorem dX12_book__1 : decode cX12_book_ 1 = .ok (.iconst 0, 1) := by decide +kernel
theorem dX12_book__2 : decode cX12_book_ 2 = .ok (.putfield 89, 3) := by decide +kernel
theorem dX12_book__5 : decode cX12_book_ 5 = .ok (.aload_n 0, 1) := by decide +kernel
theorem dX12_book__6 : decode cX12_book_ 6 = .ok (.iload_n 1, 1) := by decide +kernel
theorem dX12_book__7 : decode cX12_book_ 7 = .ok (.invokevirtual 256, 3) := by decide +kernel
theorem dX12_book__10 : decode cX12_book_ 10 = .ok (.ifCond .eq 11, 3) := by decide +kernel
theorem dX12_book__13 : decode cX12_book_ 13 = .ok (.aload_n 0, 1) := by decide +kernel
theorem dX12_book__14 : decode cX12_book_ 14 = .ok (.iload_n 2, 1) := by decide +kernel
theorem dX12_book__15 : decode cX12_book_ 15 = .ok (.invokevirtual 262, 3) := by decide +kernel
theorem dX12_book__18 : decode cX12_book_ 18 = .ok (.ifCond .ne 9, 3) := by decide +kernel
theorem dX12_book__21 : decode cX12_book_ 21 = .ok (.aload_n 0, 1) := by decide +kernel
theorem dX12_book__22 : decode cX12_book_ 22 = .ok (.iconst 1, 1) := by decide +kernel
theorem dX12_book__23 : decode cX12_book_ 23 = .ok (.invokevirtual 238, 3) := by decide +kernel
theorem dX12_book__26 : decode cX12_book_ 26 = .ok (.ireturn, 1) := by decide +kernel
theorem dX12_book__27 : decode cX12_book_ 27 = .ok (.aload_n 0, 1) := by decide +kernel
theorem dX12_book__28 : decode cX12_book_ 28 = .ok (.iload_n 1, 1) := by decide +kernel
theorem dX12_book__29 : decode cX12_book_ 29 = .ok (.iload_n 2, 1) := by decide +kernel
theorem dX12_book__30 : decode cX12_book_ 30 = .ok (.iconst (-1), 1) := by decide +kernel
theorem dX12_book__31 : decode cX12_book_ 31 = .ok (.iconst 0, 1) := by decide +kernel
theorem dX12_book__32 : decode cX12_book_ 32 = .ok (.invokevirtual 295, 3) := by decide +kernel
theorem dX12_book__35 : decode cX12_book_ 35 = .ok (.ireturn, 1) := by decide +kernel
theorem dX12_split_0 : decode cX12_split 0 = .ok (.aload_n 0, 1) := by decide +kernel
theorem dX12_split_1 : decode cX12_split 1 = .ok (.aload_n 0, 1) := by decide +kernel
theorem dX12_split_2 : decode cX12_split 2 = .ok (.iload_n 1, 1) := by decide +kernel
theorem dX12_split_3 : decode cX12_split 3 = .ok (.invokevirtual 256, 3) := by decide +kernel
theorem dX12_split_6 : decode cX12_split 6 = .ok (.ifCond .eq 19, 3) := by decide +kernel
theorem dX12_split_9 : decode cX12_split 9 = .ok (.aload_n 0, 1) := by decide +kernel
theorem dX12_split_10 : decode cX12_split 10 = .ok (.iload_n 2, 1) := by decide +kernel
theorem dX12_split_11 : decode cX12_split 11 = .ok (.invokevirtual 262, 3) := by decide +kernel
theorem dX12_split_14 : decode cX12_split 14 = .ok (.ifCond .eq 11, 3) := by decide +kernel
theorem dX12_split_17 : decode cX12_split 17 = .ok (.aload_n 0, 1) := by decide +kernel
theorem dX12_split_18 : decode cX12_split 18 = .ok (.iload_n 3, 1) := by decide +kernel
theorem dX12_split_19 : decode cX12_split 19 = .ok (.invokevirtual 262, 3) := by decide +kernel
theorem dX12_split_22 : decode cX12_split 22 = .ok (.ifCond .ne 7, 3) := by decide +kernel
theorem dX12_split_25 : decode cX12_split 25 = .ok (.iconst 1, 1) := by decide +kernel
theorem dX12_split_26 : decode cX12_split 26 = .ok (.goto 24, 3) := by decide +kernel
theorem dX12_split_29 : decode cX12_split 29 = .ok (.iload_n 2, 1) := by decide +kernel
theorem dX12_split_30 : decode cX12_split 30 = .ok (.iload_n 3, 1) := by decide +kernel
theorem dX12_split_31 : decode cX12_split 31 = .ok (.if_icmp .eq 18, 3) := by decide +kernel
theorem dX12_split_34 : decode cX12_split 34 = .ok (.iload 4, 2) := by decide +kernel
theorem dX12_split_36 : decode cX12_split 36 = .ok (.iconst 1, 1) := by decide +kernel
theorem dX12_split_37 : decode cX12_split 37 = .ok (.bipush 6, 2) := by decide +kernel
theorem dX12_split_39 : decode cX12_split 39 = .ok (.invokestatic 109, 3) := by decide +kernel
theorem dX12_split_42 : decode cX12_split 42 = .ok (.ifCond .eq 7, 3) := by decide +kernel
theorem dX12_split_45 : decode cX12_split 45 = .ok (.iconst 0, 1) := by decide +kernel
theorem dX12_split_46 : decode cX12_split 46 = .ok (.goto 4, 3) := by decide +kernel
theorem dX12_split_49 : decode cX12_split 49 = .ok (.iconst 2, 1) := by decide +kernel
theorem dX12_split_50 : decode cX12_split 50 = .ok (.putfield 89, 3) := by decide +kernel
theorem dX12_split_53 : decode cX12_split 53 = .ok (.aload_n 0, 1) := by decide +kernel
theorem dX12_split_54 : decode cX12_split 54 = .ok (.getfield 89, 3) := by decide +kernel
theorem dX12_split_57 : decode cX12_split 57 = .ok (.ifCond .eq 5, 3) := by decide +kernel
theorem dX12_split_60 : decode cX12_split 60 = .ok (.iconst 0, 1) := by decide +kernel
theorem dX12_split_61 : decode cX12_split 61 = .ok (.ireturn, 1) := by decide +kernel
theorem dX12_split_62 : decode cX12_split 62 = .ok (.aload_n 0, 1) := by decide +kernel
theorem dX12_split_63 : decode cX12_split 63 = .ok (.iload_n 1, 1) := by decide +kernel
theorem dX12_split_64 : decode cX12_split 64 = .ok (.iload_n 2, 1) := by decide +kernel
theorem dX12_split_65 : decode cX12_split 65 = .ok (.iload_n 3, 1) := by decide +kernel
theorem dX12_split_66 : decode cX12_split 66 = .ok (.iload 4, 2) := by decide +kernel
theorem dX12_split_68 : decode cX12_split 68 = .ok (.invokevirtual 295, 3) := by decide +kernel
theorem dX12_split_71 : decode cX12_split 71 = .ok (.ireturn, 1) := by decide +kernel
theorem dX12_empty_0 : decode cX12_empty 0 = .ok (.aload_n 0, 1) := by decide +kernel
theorem dX12_empty_1 : decode cX12_empty 1 = .ok (.iconst 0, 1) := by decide +kernel
theorem dX12_empty_2 : decode cX12_empty 2 = .ok (.putfield 89, 3) := by decide +kernel
theorem dX12_empty_5 : decode cX12_empty 5 = .ok (.aload_n 0, 1) := by decide +kernel
theorem dX12_empty_6 : decode cX12_empty 6 = .ok (.iload_n 1, 1) := by decide +kernel
theorem dX12_empty_7 : decode cX12_empty 7 = .ok (.invokevirtual 256, 3) := by decide +kernel
theorem dX12_empty_10 : decode cX12_empty 10 = .ok (.ifCond .ne 9, 3) := by decide +kernel
theorem dX12_empty_13 : decode cX12_empty 13 = .ok (.aload_n 0, 1) := by decide +kernel
theorem dX12_empty_14 : decode cX12_empty 14 = .ok (.iconst 1, 1) := by decide +kernel
theorem dX12_empty_15 : decode cX12_empty 15 = .ok (.invokevirtual 238, 3) := by decide +kernel
theorem dX12_empty_18 : decode cX12_empty 18 = .ok (.ireturn, 1) := by decide +kernel
theorem dX12_empty_19 : decode cX12_empty 19 = .ok (.aload_n 0, 1) := by decide +kernel
theorem dX12_empty_20 : decode cX12_empty 20 = .ok (.iload_n 1, 1) := by decide +kernel
theorem dX12_empty_21 : decode cX12_empty 21 = .ok (.invokevirtual 208, 3) := by decide +kernel
theorem dX12_empty_24 : decode cX12_empty 24 = .ok (.ifCond .eq 6, 3) := by decide +kernel
theorem dX12_empty_27 : decode cX12_empty 27 = .ok (.bipush (-2), 2) := by decide +kernel
theorem dX12_empty_29 : decode cX12_empty 29 = .ok (.ireturn, 1) := by decide +kernel
theorem dX12_empty_30 : decode cX12_empty 30 = .ok (.aload_n 0, 1) := by decide +kernel
theorem dX12_empty_31 : decode cX12_empty 31 = .ok (.invokevirtual 292, 3) := by decide +kernel
theorem dX12_empty_34 : decode cX12_empty 34 = .ok (.aload_n 0, 1) := by decide +kernel
theorem dX12_empty_35 : decode cX12_empty 35 = .ok (.iload_n 1, 1) := by decide +kernel
theorem dX12_empty_36 : decode cX12_empty 36 = .ok (.iconst 4, 1) := by decide +kernel
theorem dX12_empty_37 : decode cX12_empty 37 = .ok (.invokevirtual 119, 3) := by decide +kernel
theorem dX12_empty_40 : decode cX12_empty 40 = .ok (.istore_n 2, 1) := by decide +kernel
theorem dX12_empty_41 : decode cX12_empty 41 = .ok (.aload_n 0, 1) := by decide +kernel
theorem dX12_empty_42 : decode cX12_empty 42 = .ok (.getfield 9, 3) := by decide +kernel
theorem dX12_empty_45 : decode cX12_empty 45 = .ok (.iload_n 1, 1) := by decide +kernel
theorem dX12_empty_46 : decode cX12_empty 46 = .ok (.iconst (-1), 1) := by decide +kernel
theorem dX12_empty_47 : decode cX12_empty 47 = .ok (.iconst (-1), 1) := by decide +kernel
theorem dX12_empty_48 : decode cX12_empty 48 = .ok (.iconst 0, 1) := by decide +kernel
theorem dX12_empty_49 : decode cX12_empty 49 = .ok (.iconst 0, 1) := by decide +kernel
theorem dX12_empty_50 : decode cX12_empty 50 = .ok (.invokestatic 274, 3) := by decide +kernel
theorem dX12_empty_53 : decode cX12_empty 53 = .ok (.iload_n 2, 1) := by decide +kernel
theorem dX12_empty_54 : decode cX12_empty 54 = .ok (.ireturn, 1) := by decide +kernel
theorem dX12_move_0 : decode cX12_move 0 = .ok (.aload_n 0, 1) := by decide +kernel
theorem dX12_move_1 : decode cX12_move 1 = .ok (.aload_n 0, 1) := by decide +kernel
theorem dX12_move_2 : decode cX12_move 2 = .ok (.iload_n 1, 1) := by decide +kernel
theorem dX12_move_3 : decode cX12_move 3 = .ok (.invokevirtual 262, 3) := by decide +kernel
theorem dX12_move_6 : decode cX12_move 6 = .ok (.ifCond .eq 19, 3) := by decide +kernel
theorem dX12_move_9 : decode cX12_move 9 = .ok (.aload_n 0, 1) := by decide +kernel
theorem dX12_move_10 : decode cX12_move 10 = .ok (.iload_n 2, 1) := by decide +kernel
theorem dX12_move_11 : decode cX12_move 11 = .ok (.invokevirtual 265, 3) := by decide +kernel
theorem dX12_move_14 : decode cX12_move 14 = .ok (.ifCond .eq 11, 3) := by decide +kernel
theorem dX12_move_17 : decode cX12_move 17 = .ok (.aload_n 0, 1) := by decide +kernel
theorem dX12_move_18 : decode cX12_move 18 = .ok (.iload_n 3, 1) := by decide +kernel
theorem dX12_move_19 : decode cX12_move 19 = .ok (.invokevirtual 265, 3) := by decide +kernel
theorem dX12_move_22 : decode cX12_move 22 = .ok (.ifCond .ne 7, 3) := by decide +kernel
theorem dX12_move_25 : decode cX12_move 25 = .ok (.iconst 1, 1) := by decide +kernel
theorem dX12_move_26 : decode cX12_move 26 = .ok (.goto 13, 3) := by decide +kernel
theorem dX12_move_29 : decode cX12_move 29 = .ok (.iload_n 2, 1) := by decide +kernel
theorem dX12_move_30 : decode cX12_move 30 = .ok (.iload_n 3, 1) := by decide +kernel
theorem dX12_move_31 : decode cX12_move 31 = .ok (.if_icmp .eq 7, 3) := by decide +kernel
theorem dX12_move_34 : decode cX12_move 34 = .ok (.iconst 0, 1) := by decide +kernel
theorem dX12_move_35 : decode cX12_move 35 = .ok (.goto 4, 3) := by decide +kernel
theorem dX12_move_38 : decode cX12_move 38 = .ok (.iconst 2, 1) := by decide +kernel
theorem dX12_move_39 : decode cX12_move 39 = .ok (.putfield 89, 3) := by decide +kernel
theorem dX12_move_42 : decode cX12_move 42 = .ok (.aload_n 0, 1) := by decide +kernel
theorem dX12_move_43 : decode cX12_move 43 = .ok (.getfield 89, 3) := by decide +kernel
theorem dX12_move_46 : decode cX12_move 46 = .ok (.ifCond .eq 5, 3) := by decide +kernel
theorem dX12_move_49 : decode cX12_move 49 = .ok (.iconst 0, 1) := by decide +kernel
theorem dX12_move_50 : decode cX12_move 50 = .ok (.ireturn, 1) := by decide +kernel
theorem dX12_move_51 : decode cX12_move 51 = .ok (.aload_n 0, 1) := by decide +kernel
theorem dX12_move_52 : decode cX12_move 52 = .ok (.iload_n 1, 1) := by decide +kernel
theorem dX12_move_53 : decode cX12_move 53 = .ok (.iload_n 2, 1) := by decide +kernel
theorem dX12_move_54 : decode cX12_move 54 = .ok (.invokevirtual 202, 3) := by decide +kernel
theorem dX12_move_57 : decode cX12_move 57 = .ok (.ifCond .ne 6, 3) := by decide +kernel
theorem dX12_move_60 : decode cX12_move 60 = .ok (.bipush (-2), 2) := by decide +kernel
theorem dX12_move_62 : decode cX12_move 62 = .ok (.ireturn, 1) := by decide +kernel
theorem dX12_move_63 : decode cX12_move 63 = .ok (.iload_n 2, 1) := by decide +kernel
theorem dX12_move_64 : decode cX12_move 64 = .ok (.iconst (-1), 1) := by decide +kernel
theorem dX12_move_65 : decode cX12_move 65 = .ok (.if_icmp .eq 21, 3) := by decide +kernel
theorem dX12_move_68 : decode cX12_move 68 = .ok (.aload_n 0, 1) := by decide +kernel
theorem dX12_move_69 : decode cX12_move 69 = .ok (.iload_n 2, 1) := by decide +kernel
theorem dX12_move_70 : decode cX12_move 70 = .ok (.iload_n 1, 1) := by decide +kernel
theorem dX12_move_71 : decode cX12_move 71 = .ok (.invokevirtual 145, 3) := by decide +kernel
theorem dX12_move_74 : decode cX12_move 74 = .ok (.aload_n 0, 1) := by decide +kernel
theorem dX12_move_75 : decode cX12_move 75 = .ok (.iload_n 1, 1) := by decide +kernel
theorem dX12_move_76 : decode cX12_move 76 = .ok (.iload_n 2, 1) := by decide +kernel
theorem dX12_move_77 : decode cX12_move 77 = .ok (.invokevirtual 202, 3) := by decide +kernel
theorem dX12_move_80 : decode cX12_move 80 = .ok (.if_icmp .ne 6, 3) := by decide +kernel
theorem dX12_move_83 : decode cX12_move 83 = .ok (.bipush (-3), 2) := by decide +kernel
theorem dX12_move_85 : decode cX12_move 85 = .ok (.ireturn, 1) := by decide +kernel
theorem dX12_move_86 : decode cX12_move 86 = .ok (.aload_n 0, 1) := by decide +kernel
theorem dX12_move_87 : decode cX12_move 87 = .ok (.iload_n 1, 1) := by decide +kernel
theorem dX12_move_88 : decode cX12_move 88 = .ok (.iload_n 3, 1) := by decide +kernel
theorem dX12_move_89 : decode cX12_move 89 = .ok (.invokevirtual 202, 3) := by decide +kernel
theorem dX12_move_92 : decode cX12_move 92 = .ok (.bipush 9, 2) := by decide +kernel
theorem dX12_move_94 : decode cX12_move 94 = .ok (.if_icmp .ne 6, 3) := by decide +kernel
theorem dX12_move_97 : decode cX12_move 97 = .ok (.bipush (-4), 2) := by decide +kernel
theorem dX12_move_99 : decode cX12_move 99 = .ok (.ireturn, 1) := by decide +kernel
theorem dX12_move_100 : decode cX12_move 100 = .ok (.aload_n 0, 1) := by decide +kernel
theorem dX12_move_101 : decode cX12_move 101 = .ok (.invokevirtual 292, 3) := by decide +kernel
theorem dX12_move_104 : decode cX12_move 104 = .ok (.aload_n 0, 1) := by decide +kernel
theorem dX12_move_105 : decode cX12_move 105 = .ok (.getfield 9, 3) := by decide +kernel
theorem dX12_move_108 : decode cX12_move 108 = .ok (.iload_n 1, 1) := by decide +kernel
theorem dX12_move_109 : decode cX12_move 109 = .ok (.iload_n 2, 1) := by decide +kernel
theorem dX12_move_110 : decode cX12_move 110 = .ok (.invokestatic 102, 3) := by decide +kernel
theorem dX12_move_113 : decode cX12_move 113 = .ok (.dup2, 1) := by decide +kernel
theorem dX12_move_114 : decode cX12_move 114 = .ok (.iaload, 1) := by decide +kernel
theorem dX12_move_115 : decode cX12_move 115 = .ok (.iconst 1, 1) := by decide +kernel
theorem dX12_move_116 : decode cX12_move 116 = .ok (.isub, 1) := by decide +kernel
theorem dX12_move_117 : decode cX12_move 117 = .ok (.iastore, 1) := by decide +kernel
theorem dX12_move_118 : decode cX12_move 118 = .ok (.aload_n 0, 1) := by decide +kernel
theorem dX12_move_119 : decode cX12_move 119 = .ok (.getfield 9, 3) := by decide +kernel
theorem dX12_move_122 : decode cX12_move 122 = .ok (.iload_n 1, 1) := by decide +kernel
theorem dX12_move_123 : decode cX12_move 123 = .ok (.iload_n 3, 1) := by decide +kernel
theorem dX12_move_124 : decode cX12_move 124 = .ok (.invokestatic 102, 3) := by decide +kernel
theorem dX12_move_127 : decode cX12_move 127 = .ok (.dup2, 1) := by decide +kernel
theorem dX12_move_128 : decode cX12_move 128 = .ok (.iaload, 1) := by decide +kernel
theorem dX12_move_129 : decode cX12_move 129 = .ok (.iconst 1, 1) := by decide +kernel
theorem dX12_move_130 : decode cX12_move 130 = .ok (.iadd, 1) := by decide +kernel
theorem dX12_move_131 : decode cX12_move 131 = .ok (.iastore, 1) := by decide +kernel
theorem dX12_move_132 : decode cX12_move 132 = .ok (.aload_n 0, 1) := by decide +kernel
theorem dX12_move_133 : decode cX12_move 133 = .ok (.getfield 9, 3) := by decide +kernel
theorem dX12_move_136 : decode cX12_move 136 = .ok (.iconst 5, 1) := by decide +kernel
theorem dX12_move_137 : decode cX12_move 137 = .ok (.dup2, 1) := by decide +kernel
theorem dX12_move_138 : decode cX12_move 138 = .ok (.iaload, 1) := by decide +kernel
theorem dX12_move_139 : decode cX12_move 139 = .ok (.iconst 1, 1) := by decide +kernel
theorem dX12_move_140 : decode cX12_move 140 = .ok (.iadd, 1) := by decide +kernel
theorem dX12_move_141 : decode cX12_move 141 = .ok (.iastore, 1) := by decide +kernel
theorem dX12_move_142 : decode cX12_move 142 = .ok (.aload_n 0, 1) := by decide +kernel
theorem dX12_move_143 : decode cX12_move 143 = .ok (.iload_n 1, 1) := by decide +kernel
theorem dX12_move_144 : decode cX12_move 144 = .ok (.iload_n 3, 1) := by decide +kernel
theorem dX12_move_145 : decode cX12_move 145 = .ok (.invokevirtual 202, 3) := by decide +kernel
theorem dX12_move_148 : decode cX12_move 148 = .ok (.ireturn, 1) := by decide +kernel
theorem dX12_keepWeek_0 : decode cX12_keepWeek 0 = .ok (.sipush 311, 3) := by decide +kernel
theorem dX12_keepWeek_3 : decode cX12_keepWeek 3 = .ok (.istore_n 1, 1) := by decide +kernel
theorem dX12_keepWeek_4 : decode cX12_keepWeek 4 = .ok (.iload_n 1, 1) := by decide +kernel
theorem dX12_keepWeek_5 : decode cX12_keepWeek 5 = .ok (.sipush 217, 3) := by decide +kernel
theorem dX12_keepWeek_8 : decode cX12_keepWeek 8 = .ok (.if_icmp .lt 23, 3) := by decide +kernel
theorem dX12_keepWeek_11 : decode cX12_keepWeek 11 = .ok (.aload_n 0, 1) := by decide +kernel
theorem dX12_keepWeek_12 : decode cX12_keepWeek 12 = .ok (.getfield 9, 3) := by decide +kernel
theorem dX12_keepWeek_15 : decode cX12_keepWeek 15 = .ok (.iload_n 1, 1) := by decide +kernel
theorem dX12_keepWeek_16 : decode cX12_keepWeek 16 = .ok (.aload_n 0, 1) := by decide +kernel
theorem dX12_keepWeek_17 : decode cX12_keepWeek 17 = .ok (.getfield 9, 3) := by decide +kernel
theorem dX12_keepWeek_20 : decode cX12_keepWeek 20 = .ok (.iload_n 1, 1) := by decide +kernel
theorem dX12_keepWeek_21 : decode cX12_keepWeek 21 = .ok (.iconst 5, 1) := by decide +kernel
theorem dX12_keepWeek_22 : decode cX12_keepWeek 22 = .ok (.isub, 1) := by decide +kernel
theorem dX12_keepWeek_23 : decode cX12_keepWeek 23 = .ok (.iaload, 1) := by decide +kernel
theorem dX12_keepWeek_24 : decode cX12_keepWeek 24 = .ok (.iastore, 1) := by decide +kernel
theorem dX12_keepWeek_25 : decode cX12_keepWeek 25 = .ok (.iinc 1 (-1), 3) := by decide +kernel
theorem dX12_keepWeek_28 : decode cX12_keepWeek 28 = .ok (.goto (-24), 3) := by decide +kernel
theorem dX12_keepWeek_31 : decode cX12_keepWeek 31 = .ok (.iconst 0, 1) := by decide +kernel
theorem dX12_keepWeek_32 : decode cX12_keepWeek 32 = .ok (.istore_n 1, 1) := by decide +kernel
theorem dX12_keepWeek_33 : decode cX12_keepWeek 33 = .ok (.iconst 0, 1) := by decide +kernel
theorem dX12_keepWeek_34 : decode cX12_keepWeek 34 = .ok (.istore_n 2, 1) := by decide +kernel
theorem dX12_keepWeek_35 : decode cX12_keepWeek 35 = .ok (.iload_n 2, 1) := by decide +kernel
theorem dX12_keepWeek_36 : decode cX12_keepWeek 36 = .ok (.aload_n 0, 1) := by decide +kernel
theorem dX12_keepWeek_37 : decode cX12_keepWeek 37 = .ok (.invokevirtual 105, 3) := by decide +kernel
theorem dX12_keepWeek_40 : decode cX12_keepWeek 40 = .ok (.if_icmp .ge 17, 3) := by decide +kernel
theorem dX12_keepWeek_43 : decode cX12_keepWeek 43 = .ok (.iload_n 1, 1) := by decide +kernel
theorem dX12_keepWeek_44 : decode cX12_keepWeek 44 = .ok (.aload_n 0, 1) := by decide +kernel
theorem dX12_keepWeek_45 : decode cX12_keepWeek 45 = .ok (.iload_n 2, 1) := by decide +kernel
theorem dX12_keepWeek_46 : decode cX12_keepWeek 46 = .ok (.invokevirtual 250, 3) := by decide +kernel
theorem dX12_keepWeek_49 : decode cX12_keepWeek 49 = .ok (.iadd, 1) := by decide +kernel
theorem dX12_keepWeek_50 : decode cX12_keepWeek 50 = .ok (.istore_n 1, 1) := by decide +kernel
theorem dX12_keepWeek_51 : decode cX12_keepWeek 51 = .ok (.iinc 2 1, 3) := by decide +kernel
theorem dX12_keepWeek_54 : decode cX12_keepWeek 54 = .ok (.goto (-19), 3) := by decide +kernel
theorem dX12_keepWeek_57 : decode cX12_keepWeek 57 = .ok (.aload_n 0, 1) := by decide +kernel
theorem dX12_keepWeek_58 : decode cX12_keepWeek 58 = .ok (.getfield 9, 3) := by decide +kernel
theorem dX12_keepWeek_61 : decode cX12_keepWeek 61 = .ok (.sipush 212, 3) := by decide +kernel
theorem dX12_keepWeek_64 : decode cX12_keepWeek 64 = .ok (.aload_n 0, 1) := by decide +kernel
theorem dX12_keepWeek_65 : decode cX12_keepWeek 65 = .ok (.iconst (-1), 1) := by decide +kernel
theorem dX12_keepWeek_66 : decode cX12_keepWeek 66 = .ok (.iconst (-1), 1) := by decide +kernel
theorem dX12_keepWeek_67 : decode cX12_keepWeek 67 = .ok (.invokevirtual 187, 3) := by decide +kernel
theorem dX12_keepWeek_70 : decode cX12_keepWeek 70 = .ok (.iastore, 1) := by decide +kernel
theorem dX12_keepWeek_71 : decode cX12_keepWeek 71 = .ok (.aload_n 0, 1) := by decide +kernel
theorem dX12_keepWeek_72 : decode cX12_keepWeek 72 = .ok (.getfield 9, 3) := by decide +kernel
theorem dX12_keepWeek_75 : decode cX12_keepWeek 75 = .ok (.sipush 213, 3) := by decide +kernel
theorem dX12_keepWeek_78 : decode cX12_keepWeek 78 = .ok (.iload_n 1, 1) := by decide +kernel
theorem dX12_keepWeek_79 : decode cX12_keepWeek 79 = .ok (.iastore, 1) := by decide +kernel
theorem dX12_keepWeek_80 : decode cX12_keepWeek 80 = .ok (.aload_n 0, 1) := by decide +kernel
theorem dX12_keepWeek_81 : decode cX12_keepWeek 81 = .ok (.getfield 9, 3) := by decide +kernel
theorem dX12_keepWeek_84 : decode cX12_keepWeek 84 = .ok (.sipush 214, 3) := by decide +kernel
theorem dX12_keepWeek_87 : decode cX12_keepWeek 87 = .ok (.aload_n 0, 1) := by decide +kernel
theorem dX12_keepWeek_88 : decode cX12_keepWeek 88 = .ok (.iconst (-1), 1) := by decide +kernel
theorem dX12_keepWeek_89 : decode cX12_keepWeek 89 = .ok (.invokevirtual 253, 3) := by decide +kernel
theorem dX12_keepWeek_92 : decode cX12_keepWeek 92 = .ok (.iastore, 1) := by decide +kernel
theorem dX12_keepWeek_93 : decode cX12_keepWeek 93 = .ok (.aload_n 0, 1) := by decide +kernel
theorem dX12_keepWeek_94 : decode cX12_keepWeek 94 = .ok (.getfield 9, 3) := by decide +kernel
theorem dX12_keepWeek_97 : decode cX12_keepWeek 97 = .ok (.sipush 215, 3) := by decide +kernel
theorem dX12_keepWeek_100 : decode cX12_keepWeek 100 = .ok (.aload_n 0, 1) := by decide +kernel
theorem dX12_keepWeek_101 : decode cX12_keepWeek 101 = .ok (.getfield 9, 3) := by decide +kernel
theorem dX12_keepWeek_104 : decode cX12_keepWeek 104 = .ok (.iconst 4, 1) := by decide +kernel
theorem dX12_keepWeek_105 : decode cX12_keepWeek 105 = .ok (.iaload, 1) := by decide +kernel
theorem dX12_keepWeek_106 : decode cX12_keepWeek 106 = .ok (.aload_n 0, 1) := by decide +kernel
theorem dX12_keepWeek_107 : decode cX12_keepWeek 107 = .ok (.getfield 9, 3) := by decide +kernel
theorem dX12_keepWeek_110 : decode cX12_keepWeek 110 = .ok (.iconst 5, 1) := by decide +kernel
theorem dX12_keepWeek_111 : decode cX12_keepWeek 111 = .ok (.iaload, 1) := by decide +kernel
theorem dX12_keepWeek_112 : decode cX12_keepWeek 112 = .ok (.imul, 1) := by decide +kernel
theorem dX12_keepWeek_113 : decode cX12_keepWeek 113 = .ok (.iastore, 1) := by decide +kernel
theorem dX12_keepWeek_114 : decode cX12_keepWeek 114 = .ok (.aload_n 0, 1) := by decide +kernel
theorem dX12_keepWeek_115 : decode cX12_keepWeek 115 = .ok (.getfield 9, 3) := by decide +kernel
theorem dX12_keepWeek_118 : decode cX12_keepWeek 118 = .ok (.sipush 216, 3) := by decide +kernel
theorem dX12_keepWeek_121 : decode cX12_keepWeek 121 = .ok (.iconst 0, 1) := by decide +kernel
theorem dX12_keepWeek_122 : decode cX12_keepWeek 122 = .ok (.iastore, 1) := by decide +kernel
theorem dX12_keepWeek_123 : decode cX12_keepWeek 123 = .ok (.iconst 0, 1) := by decide +kernel
theorem dX12_keepWeek_124 : decode cX12_keepWeek 124 = .ok (.istore_n 2, 1) := by decide +kernel
theorem dX12_keepWeek_125 : decode cX12_keepWeek 125 = .ok (.iload_n 2, 1) := by decide +kernel
theorem dX12_keepWeek_126 : decode cX12_keepWeek 126 = .ok (.iconst 3, 1) := by decide +kernel
theorem dX12_keepWeek_127 : decode cX12_keepWeek 127 = .ok (.if_icmp .gt 32, 3) := by decide +kernel
theorem dX12_keepWeek_130 : decode cX12_keepWeek 130 = .ok (.aload_n 0, 1) := by decide +kernel
theorem dX12_keepWeek_131 : decode cX12_keepWeek 131 = .ok (.getfield 9, 3) := by decide +kernel
theorem dX12_keepWeek_134 : decode cX12_keepWeek 134 = .ok (.sipush 208, 3) := by decide +kernel
theorem dX12_keepWeek_137 : decode cX12_keepWeek 137 = .ok (.iload_n 2, 1) := by decide +kernel
theorem dX12_keepWeek_138 : decode cX12_keepWeek 138 = .ok (.iadd, 1) := by decide +kernel
theorem dX12_keepWeek_139 : decode cX12_keepWeek 139 = .ok (.dup2, 1) := by decide +kernel
theorem dX12_keepWeek_140 : decode cX12_keepWeek 140 = .ok (.iaload, 1) := by decide +kernel
theorem dX12_keepWeek_141 : decode cX12_keepWeek 141 = .ok (.aload_n 0, 1) := by decide +kernel
theorem dX12_keepWeek_142 : decode cX12_keepWeek 142 = .ok (.getfield 9, 3) := by decide +kernel
theorem dX12_keepWeek_145 : decode cX12_keepWeek 145 = .ok (.sipush 212, 3) := by decide +kernel
theorem dX12_keepWeek_148 : decode cX12_keepWeek 148 = .ok (.iload_n 2, 1) := by decide +kernel
theorem dX12_keepWeek_149 : decode cX12_keepWeek 149 = .ok (.iadd, 1) := by decide +kernel
theorem dX12_keepWeek_150 : decode cX12_keepWeek 150 = .ok (.iaload, 1) := by decide +kernel
theorem dX12_keepWeek_151 : decode cX12_keepWeek 151 = .ok (.iadd, 1) := by decide +kernel
theorem dX12_keepWeek_152 : decode cX12_keepWeek 152 = .ok (.iastore, 1) := by decide +kernel
theorem dX12_keepWeek_153 : decode cX12_keepWeek 153 = .ok (.iinc 2 1, 3) := by decide +kernel
theorem dX12_keepWeek_156 : decode cX12_keepWeek 156 = .ok (.goto (-31), 3) := by decide +kernel
theorem dX12_keepWeek_159 : decode cX12_keepWeek 159 = .ok (.return_, 1) := by decide +kernel
theorem dX12_keepFilm_0 : decode cX12_keepFilm 0 = .ok (.aload_n 0, 1) := by decide +kernel
theorem dX12_keepFilm_1 : decode cX12_keepFilm 1 = .ok (.getfield 9, 3) := by decide +kernel
theorem dX12_keepFilm_4 : decode cX12_keepFilm 4 = .ok (.iload_n 1, 1) := by decide +kernel
theorem dX12_keepFilm_5 : decode cX12_keepFilm 5 = .ok (.bipush 9, 2) := by decide +kernel
theorem dX12_keepFilm_7 : decode cX12_keepFilm 7 = .ok (.invokestatic 99, 3) := by decide +kernel
theorem dX12_keepFilm_10 : decode cX12_keepFilm 10 = .ok (.dup2, 1) := by decide +kernel
theorem dX12_keepFilm_11 : decode cX12_keepFilm 11 = .ok (.iaload, 1) := by decide +kernel
theorem dX12_keepFilm_12 : decode cX12_keepFilm 12 = .ok (.aload_n 0, 1) := by decide +kernel
theorem dX12_keepFilm_13 : decode cX12_keepFilm 13 = .ok (.iconst (-1), 1) := by decide +kernel
theorem dX12_keepFilm_14 : decode cX12_keepFilm 14 = .ok (.iload_n 1, 1) := by decide +kernel
theorem dX12_keepFilm_15 : decode cX12_keepFilm 15 = .ok (.invokevirtual 187, 3) := by decide +kernel
theorem dX12_keepFilm_18 : decode cX12_keepFilm 18 = .ok (.iadd, 1) := by decide +kernel
theorem dX12_keepFilm_19 : decode cX12_keepFilm 19 = .ok (.iastore, 1) := by decide +kernel
theorem dX12_keepFilm_20 : decode cX12_keepFilm 20 = .ok (.iconst 0, 1) := by decide +kernel
theorem dX12_keepFilm_21 : decode cX12_keepFilm 21 = .ok (.istore_n 2, 1) := by decide +kernel
theorem dX12_keepFilm_22 : decode cX12_keepFilm 22 = .ok (.iload_n 2, 1) := by decide +kernel
theorem dX12_keepFilm_23 : decode cX12_keepFilm 23 = .ok (.aload_n 0, 1) := by decide +kernel
theorem dX12_keepFilm_24 : decode cX12_keepFilm 24 = .ok (.invokevirtual 105, 3) := by decide +kernel
theorem dX12_keepFilm_27 : decode cX12_keepFilm 27 = .ok (.if_icmp .ge 70, 3) := by decide +kernel
theorem dX12_keepFilm_30 : decode cX12_keepFilm 30 = .ok (.aload_n 0, 1) := by decide +kernel
theorem dX12_keepFilm_31 : decode cX12_keepFilm 31 = .ok (.iload_n 2, 1) := by decide +kernel
theorem dX12_keepFilm_32 : decode cX12_keepFilm 32 = .ok (.iload_n 1, 1) := by decide +kernel
theorem dX12_keepFilm_33 : decode cX12_keepFilm 33 = .ok (.invokevirtual 183, 3) := by decide +kernel
theorem dX12_keepFilm_36 : decode cX12_keepFilm 36 = .ok (.ifCond .eq 55, 3) := by decide +kernel
theorem dX12_keepFilm_39 : decode cX12_keepFilm 39 = .ok (.aload_n 0, 1) := by decide +kernel
theorem dX12_keepFilm_40 : decode cX12_keepFilm 40 = .ok (.getfield 9, 3) := by decide +kernel
theorem dX12_keepFilm_43 : decode cX12_keepFilm 43 = .ok (.iload_n 2, 1) := by decide +kernel
theorem dX12_keepFilm_44 : decode cX12_keepFilm 44 = .ok (.iload_n 1, 1) := by decide +kernel
theorem dX12_keepFilm_45 : decode cX12_keepFilm 45 = .ok (.invokestatic 180, 3) := by decide +kernel
theorem dX12_keepFilm_48 : decode cX12_keepFilm 48 = .ok (.dup2, 1) := by decide +kernel
theorem dX12_keepFilm_49 : decode cX12_keepFilm 49 = .ok (.iaload, 1) := by decide +kernel
theorem dX12_keepFilm_50 : decode cX12_keepFilm 50 = .ok (.iconst 1, 1) := by decide +kernel
theorem dX12_keepFilm_51 : decode cX12_keepFilm 51 = .ok (.iadd, 1) := by decide +kernel
theorem dX12_keepFilm_52 : decode cX12_keepFilm 52 = .ok (.iastore, 1) := by decide +kernel
theorem dX12_keepFilm_53 : decode cX12_keepFilm 53 = .ok (.aload_n 0, 1) := by decide +kernel
theorem dX12_keepFilm_54 : decode cX12_keepFilm 54 = .ok (.getfield 9, 3) := by decide +kernel
theorem dX12_keepFilm_57 : decode cX12_keepFilm 57 = .ok (.iload_n 1, 1) := by decide +kernel
theorem dX12_keepFilm_58 : decode cX12_keepFilm 58 = .ok (.bipush 8, 2) := by decide +kernel
theorem dX12_keepFilm_60 : decode cX12_keepFilm 60 = .ok (.invokestatic 99, 3) := by decide +kernel
theorem dX12_keepFilm_63 : decode cX12_keepFilm 63 = .ok (.aload_n 0, 1) := by decide +kernel
theorem dX12_keepFilm_64 : decode cX12_keepFilm 64 = .ok (.iload_n 1, 1) := by decide +kernel
theorem dX12_keepFilm_65 : decode cX12_keepFilm 65 = .ok (.bipush 8, 2) := by decide +kernel
theorem dX12_keepFilm_67 : decode cX12_keepFilm 67 = .ok (.invokevirtual 148, 3) := by decide +kernel
theorem dX12_keepFilm_70 : decode cX12_keepFilm 70 = .ok (.iconst (-1), 1) := by decide +kernel
theorem dX12_keepFilm_71 : decode cX12_keepFilm 71 = .ok (.if_icmp .ne 12, 3) := by decide +kernel
theorem dX12_keepFilm_74 : decode cX12_keepFilm 74 = .ok (.aload_n 0, 1) := by decide +kernel
theorem dX12_keepFilm_75 : decode cX12_keepFilm 75 = .ok (.getfield 9, 3) := by decide +kernel
theorem dX12_keepFilm_78 : decode cX12_keepFilm 78 = .ok (.iconst 3, 1) := by decide +kernel
theorem dX12_keepFilm_79 : decode cX12_keepFilm 79 = .ok (.iaload, 1) := by decide +kernel
theorem dX12_keepFilm_80 : decode cX12_keepFilm 80 = .ok (.goto 10, 3) := by decide +kernel
theorem dX12_keepFilm_83 : decode cX12_keepFilm 83 = .ok (.aload_n 0, 1) := by decide +kernel
theorem dX12_keepFilm_84 : decode cX12_keepFilm 84 = .ok (.iload_n 1, 1) := by decide +kernel
theorem dX12_keepFilm_85 : decode cX12_keepFilm 85 = .ok (.bipush 8, 2) := by decide +kernel
theorem dX12_keepFilm_87 : decode cX12_keepFilm 87 = .ok (.invokevirtual 148, 3) := by decide +kernel
theorem dX12_keepFilm_90 : decode cX12_keepFilm 90 = .ok (.iastore, 1) := by decide +kernel
theorem dX12_keepFilm_91 : decode cX12_keepFilm 91 = .ok (.iinc 2 1, 3) := by decide +kernel
theorem dX12_keepFilm_94 : decode cX12_keepFilm 94 = .ok (.goto (-72), 3) := by decide +kernel
theorem dX12_keepFilm_97 : decode cX12_keepFilm 97 = .ok (.return_, 1) := by decide +kernel
theorem dX12_holdScreens_0 : decode cX12_holdScreens 0 = .ok (.iconst 0, 1) := by decide +kernel
theorem dX12_holdScreens_1 : decode cX12_holdScreens 1 = .ok (.istore_n 1, 1) := by decide +kernel
theorem dX12_holdScreens_2 : decode cX12_holdScreens 2 = .ok (.iload_n 1, 1) := by decide +kernel
theorem dX12_holdScreens_3 : decode cX12_holdScreens 3 = .ok (.aload_n 0, 1) := by decide +kernel
theorem dX12_holdScreens_4 : decode cX12_holdScreens 4 = .ok (.invokevirtual 113, 3) := by decide +kernel
theorem dX12_holdScreens_7 : decode cX12_holdScreens 7 = .ok (.if_icmp .ge 20, 3) := by decide +kernel
theorem dX12_holdScreens_10 : decode cX12_holdScreens 10 = .ok (.aload_n 0, 1) := by decide +kernel
theorem dX12_holdScreens_11 : decode cX12_holdScreens 11 = .ok (.getfield 41, 3) := by decide +kernel
theorem dX12_holdScreens_14 : decode cX12_holdScreens 14 = .ok (.iload_n 1, 1) := by decide +kernel
theorem dX12_holdScreens_15 : decode cX12_holdScreens 15 = .ok (.aload_n 0, 1) := by decide +kernel
theorem dX12_holdScreens_16 : decode cX12_holdScreens 16 = .ok (.iload_n 1, 1) := by decide +kernel
theorem dX12_holdScreens_17 : decode cX12_holdScreens 17 = .ok (.invokevirtual 271, 3) := by decide +kernel
theorem dX12_holdScreens_20 : decode cX12_holdScreens 20 = .ok (.bastore, 1) := by decide +kernel
theorem dX12_holdScreens_21 : decode cX12_holdScreens 21 = .ok (.iinc 1 1, 3) := by decide +kernel
theorem dX12_holdScreens_24 : decode cX12_holdScreens 24 = .ok (.goto (-22), 3) := by decide +kernel
theorem dX12_holdScreens_27 : decode cX12_holdScreens 27 = .ok (.iconst 0, 1) := by decide +kernel
theorem dX12_holdScreens_28 : decode cX12_holdScreens 28 = .ok (.istore_n 1, 1) := by decide +kernel
theorem dX12_holdScreens_29 : decode cX12_holdScreens 29 = .ok (.iload_n 1, 1) := by decide +kernel
theorem dX12_holdScreens_30 : decode cX12_holdScreens 30 = .ok (.aload_n 0, 1) := by decide +kernel
theorem dX12_holdScreens_31 : decode cX12_holdScreens 31 = .ok (.invokevirtual 113, 3) := by decide +kernel
theorem dX12_holdScreens_34 : decode cX12_holdScreens 34 = .ok (.if_icmp .ge 72, 3) := by decide +kernel
theorem dX12_holdScreens_37 : decode cX12_holdScreens 37 = .ok (.aload_n 0, 1) := by decide +kernel
theorem dX12_holdScreens_38 : decode cX12_holdScreens 38 = .ok (.getfield 41, 3) := by decide +kernel
theorem dX12_holdScreens_41 : decode cX12_holdScreens 41 = .ok (.iload_n 1, 1) := by decide +kernel
theorem dX12_holdScreens_42 : decode cX12_holdScreens 42 = .ok (.baload, 1) := by decide +kernel
theorem dX12_holdScreens_43 : decode cX12_holdScreens 43 = .ok (.ifCond .eq 13, 3) := by decide +kernel
theorem dX12_holdScreens_46 : decode cX12_holdScreens 46 = .ok (.aload_n 0, 1) := by decide +kernel
theorem dX12_holdScreens_47 : decode cX12_holdScreens 47 = .ok (.iload_n 1, 1) := by decide +kernel
theorem dX12_holdScreens_48 : decode cX12_holdScreens 48 = .ok (.bipush 6, 2) := by decide +kernel
theorem dX12_holdScreens_50 : decode cX12_holdScreens 50 = .ok (.invokevirtual 129, 3) := by decide +kernel
theorem dX12_holdScreens_53 : decode cX12_holdScreens 53 = .ok (.goto 4, 3) := by decide +kernel
theorem dX12_holdScreens_56 : decode cX12_holdScreens 56 = .ok (.iconst (-1), 1) := by decide +kernel
theorem dX12_holdScreens_57 : decode cX12_holdScreens 57 = .ok (.istore_n 2, 1) := by decide +kernel
theorem dX12_holdScreens_58 : decode cX12_holdScreens 58 = .ok (.aload_n 0, 1) := by decide +kernel
theorem dX12_holdScreens_59 : decode cX12_holdScreens 59 = .ok (.getfield 9, 3) := by decide +kernel
theorem dX12_holdScreens_62 : decode cX12_holdScreens 62 = .ok (.iload_n 1, 1) := by decide +kernel
theorem dX12_holdScreens_63 : decode cX12_holdScreens 63 = .ok (.iload_n 2, 1) := by decide +kernel
theorem dX12_holdScreens_64 : decode cX12_holdScreens 64 = .ok (.iconst (-1), 1) := by decide +kernel
theorem dX12_holdScreens_65 : decode cX12_holdScreens 65 = .ok (.iconst 0, 1) := by decide +kernel
theorem dX12_holdScreens_66 : decode cX12_holdScreens 66 = .ok (.aload_n 0, 1) := by decide +kernel
theorem dX12_holdScreens_67 : decode cX12_holdScreens 67 = .ok (.getfield 41, 3) := by decide +kernel
theorem dX12_holdScreens_70 : decode cX12_holdScreens 70 = .ok (.iload_n 1, 1) := by decide +kernel
theorem dX12_holdScreens_71 : decode cX12_holdScreens 71 = .ok (.baload, 1) := by decide +kernel
theorem dX12_holdScreens_72 : decode cX12_holdScreens 72 = .ok (.invokestatic 274, 3) := by decide +kernel
theorem dX12_holdScreens_75 : decode cX12_holdScreens 75 = .ok (.aload_n 0, 1) := by decide +kernel
theorem dX12_holdScreens_76 : decode cX12_holdScreens 76 = .ok (.getfield 9, 3) := by decide +kernel
theorem dX12_holdScreens_79 : decode cX12_holdScreens 79 = .ok (.sipush 216, 3) := by decide +kernel
theorem dX12_holdScreens_82 : decode cX12_holdScreens 82 = .ok (.dup2, 1) := by decide +kernel
theorem dX12_holdScreens_83 : decode cX12_holdScreens 83 = .ok (.iaload, 1) := by decide +kernel
theorem dX12_holdScreens_84 : decode cX12_holdScreens 84 = .ok (.aload_n 0, 1) := by decide +kernel
theorem dX12_holdScreens_85 : decode cX12_holdScreens 85 = .ok (.getfield 41, 3) := by decide +kernel
theorem dX12_holdScreens_88 : decode cX12_holdScreens 88 = .ok (.iload_n 1, 1) := by decide +kernel
theorem dX12_holdScreens_89 : decode cX12_holdScreens 89 = .ok (.baload, 1) := by decide +kernel
theorem dX12_holdScreens_90 : decode cX12_holdScreens 90 = .ok (.ifCond .eq 7, 3) := by decide +kernel
theorem dX12_holdScreens_93 : decode cX12_holdScreens 93 = .ok (.iconst 1, 1) := by decide +kernel
theorem dX12_holdScreens_94 : decode cX12_holdScreens 94 = .ok (.goto 4, 3) := by decide +kernel
theorem dX12_holdScreens_97 : decode cX12_holdScreens 97 = .ok (.iconst 0, 1) := by decide +kernel
theorem dX12_holdScreens_98 : decode cX12_holdScreens 98 = .ok (.iadd, 1) := by decide +kernel
theorem dX12_holdScreens_99 : decode cX12_holdScreens 99 = .ok (.iastore, 1) := by decide +kernel
theorem dX12_holdScreens_100 : decode cX12_holdScreens 100 = .ok (.iinc 1 1, 3) := by decide +kernel
theorem dX12_holdScreens_103 : decode cX12_holdScreens 103 = .ok (.goto (-74), 3) := by decide +kernel
theorem dX12_holdScreens_106 : decode cX12_holdScreens 106 = .ok (.return_, 1) := by decide +kernel
theorem dX12_close_0 : decode cX12_close 0 = .ok (.aload_n 0, 1) := by decide +kernel
theorem dX12_close_1 : decode cX12_close 1 = .ok (.iconst 0, 1) := by decide +kernel
theorem dX12_close_2 : decode cX12_close 2 = .ok (.putfield 89, 3) := by decide +kernel
theorem dX12_close_5 : decode cX12_close 5 = .ok (.aload_n 0, 1) := by decide +kernel
theorem dX12_close_6 : decode cX12_close 6 = .ok (.getfield 9, 3) := by decide +kernel
theorem dX12_close_9 : decode cX12_close 9 = .ok (.iconst 3, 1) := by decide +kernel
theorem dX12_close_10 : decode cX12_close 10 = .ok (.iaload, 1) := by decide +kernel
theorem dX12_close_11 : decode cX12_close 11 = .ok (.bipush 60, 2) := by decide +kernel
theorem dX12_close_13 : decode cX12_close 13 = .ok (.if_icmp .ne 6, 3) := by decide +kernel
theorem dX12_close_16 : decode cX12_close 16 = .ok (.bipush (-2), 2) := by decide +kernel
theorem dX12_close_18 : decode cX12_close 18 = .ok (.ireturn, 1) := by decide +kernel
theorem dX12_close_19 : decode cX12_close 19 = .ok (.aload_n 0, 1) := by decide +kernel
theorem dX12_close_20 : decode cX12_close 20 = .ok (.invokevirtual 292, 3) := by decide +kernel
theorem dX12_close_23 : decode cX12_close 23 = .ok (.aload_n 0, 1) := by decide +kernel
theorem dX12_close_24 : decode cX12_close 24 = .ok (.invokevirtual 244, 3) := by decide +kernel
theorem dX12_close_27 : decode cX12_close 27 = .ok (.aload_n 0, 1) := by decide +kernel
theorem dX12_close_28 : decode cX12_close 28 = .ok (.invokevirtual 299, 3) := by decide +kernel
theorem dX12_close_31 : decode cX12_close 31 = .ok (.iconst 0, 1) := by decide +kernel
theorem dX12_close_32 : decode cX12_close 32 = .ok (.istore_n 1, 1) := by decide +kernel
theorem dX12_close_33 : decode cX12_close 33 = .ok (.iload_n 1, 1) := by decide +kernel
theorem dX12_close_34 : decode cX12_close 34 = .ok (.aload_n 0, 1) := by decide +kernel
theorem dX12_close_35 : decode cX12_close 35 = .ok (.invokevirtual 116, 3) := by decide +kernel
theorem dX12_close_38 : decode cX12_close 38 = .ok (.if_icmp .ge 14, 3) := by decide +kernel
theorem dX12_close_41 : decode cX12_close 41 = .ok (.aload_n 0, 1) := by decide +kernel
theorem dX12_close_42 : decode cX12_close 42 = .ok (.iload_n 1, 1) := by decide +kernel
theorem dX12_close_43 : decode cX12_close 43 = .ok (.invokevirtual 302, 3) := by decide +kernel
theorem dX12_close_46 : decode cX12_close 46 = .ok (.iinc 1 1, 3) := by decide +kernel
theorem dX12_close_49 : decode cX12_close 49 = .ok (.goto (-16), 3) := by decide +kernel
theorem dX12_close_52 : decode cX12_close 52 = .ok (.aload_n 0, 1) := by decide +kernel
theorem dX12_close_53 : decode cX12_close 53 = .ok (.invokevirtual 305, 3) := by decide +kernel
theorem dX12_close_56 : decode cX12_close 56 = .ok (.aload_n 0, 1) := by decide +kernel
theorem dX12_close_57 : decode cX12_close 57 = .ok (.getfield 9, 3) := by decide +kernel
theorem dX12_close_60 : decode cX12_close 60 = .ok (.iconst 3, 1) := by decide +kernel
theorem dX12_close_61 : decode cX12_close 61 = .ok (.dup2, 1) := by decide +kernel
theorem dX12_close_62 : decode cX12_close 62 = .ok (.iaload, 1) := by decide +kernel
theorem dX12_close_63 : decode cX12_close 63 = .ok (.iconst 1, 1) := by decide +kernel
theorem dX12_close_64 : decode cX12_close 64 = .ok (.iadd, 1) := by decide +kernel
theorem dX12_close_65 : decode cX12_close 65 = .ok (.iastore, 1) := by decide +kernel
theorem dX12_close_66 : decode cX12_close 66 = .ok (.aload_n 0, 1) := by decide +kernel
theorem dX12_close_67 : decode cX12_close 67 = .ok (.getfield 9, 3) := by decide +kernel
theorem dX12_close_70 : decode cX12_close 70 = .ok (.iconst 5, 1) := by decide +kernel
theorem dX12_close_71 : decode cX12_close 71 = .ok (.iconst 0, 1) := by decide +kernel
theorem dX12_close_72 : decode cX12_close 72 = .ok (.iastore, 1) := by decide +kernel
theorem dX12_close_73 : decode cX12_close 73 = .ok (.aload_n 0, 1) := by decide +kernel
theorem dX12_close_74 : decode cX12_close 74 = .ok (.getfield 9, 3) := by decide +kernel
theorem dX12_close_77 : decode cX12_close 77 = .ok (.sipush 212, 3) := by decide +kernel
theorem dX12_close_80 : decode cX12_close 80 = .ok (.iaload, 1) := by decide +kernel
theorem dX12_close_81 : decode cX12_close 81 = .ok (.ireturn, 1) := by decide +kernel
theorem dX12_program_0 : decode cX12_program 0 = .ok (.aload_n 0, 1) := by decide +kernel
theorem dX12_program_1 : decode cX12_program 1 = .ok (.iconst 0, 1) := by decide +kernel
theorem dX12_program_2 : decode cX12_program 2 = .ok (.putfield 89, 3) := by decide +kernel
theorem dX12_program_5 : decode cX12_program 5 = .ok (.aload_n 0, 1) := by decide +kernel
theorem dX12_program_6 : decode cX12_program 6 = .ok (.iload_n 1, 1) := by decide +kernel
theorem dX12_program_7 : decode cX12_program 7 = .ok (.invokevirtual 241, 3) := by decide +kernel
theorem dX12_program_10 : decode cX12_program 10 = .ok (.ifCond .ne 9, 3) := by decide +kernel
theorem dX12_program_13 : decode cX12_program 13 = .ok (.aload_n 0, 1) := by decide +kernel
theorem dX12_program_14 : decode cX12_program 14 = .ok (.iconst 1, 1) := by decide +kernel
theorem dX12_program_15 : decode cX12_program 15 = .ok (.invokevirtual 238, 3) := by decide +kernel
theorem dX12_program_18 : decode cX12_program 18 = .ok (.ireturn, 1) := by decide +kernel
theorem dX12_program_19 : decode cX12_program 19 = .ok (.aload_n 0, 1) := by decide +kernel
theorem dX12_program_20 : decode cX12_program 20 = .ok (.invokevirtual 292, 3) := by decide +kernel
theorem dX12_program_23 : decode cX12_program 23 = .ok (.aload_n 0, 1) := by decide +kernel
theorem dX12_program_24 : decode cX12_program 24 = .ok (.iload_n 1, 1) := by decide +kernel
theorem dX12_program_25 : decode cX12_program 25 = .ok (.invokevirtual 225, 3) := by decide +kernel
theorem dX12_program_28 : decode cX12_program 28 = .ok (.iconst 0, 1) := by decide +kernel
theorem dX12_program_29 : decode cX12_program 29 = .ok (.istore_n 2, 1) := by decide +kernel
theorem dX12_program_30 : decode cX12_program 30 = .ok (.iconst 0, 1) := by decide +kernel
theorem dX12_program_31 : decode cX12_program 31 = .ok (.istore_n 3, 1) := by decide +kernel
theorem dX12_program_32 : decode cX12_program 32 = .ok (.iload_n 3, 1) := by decide +kernel
theorem dX12_program_33 : decode cX12_program 33 = .ok (.aload_n 0, 1) := by decide +kernel
theorem dX12_program_34 : decode cX12_program 34 = .ok (.getfield 199, 3) := by decide +kernel
theorem dX12_program_37 : decode cX12_program 37 = .ok (.if_icmp .ge 85, 3) := by decide +kernel
theorem dX12_program_40 : decode cX12_program 40 = .ok (.aload_n 0, 1) := by decide +kernel
theorem dX12_program_41 : decode cX12_program 41 = .ok (.getfield 29, 3) := by decide +kernel
theorem dX12_program_44 : decode cX12_program 44 = .ok (.iload_n 3, 1) := by decide +kernel
theorem dX12_program_45 : decode cX12_program 45 = .ok (.iaload, 1) := by decide +kernel
theorem dX12_program_46 : decode cX12_program 46 = .ok (.istore 4, 2) := by decide +kernel
theorem dX12_program_48 : decode cX12_program 48 = .ok (.aload_n 0, 1) := by decide +kernel
theorem dX12_program_49 : decode cX12_program 49 = .ok (.iload 4, 2) := by decide +kernel
theorem dX12_program_51 : decode cX12_program 51 = .ok (.iconst 4, 1) := by decide +kernel
theorem dX12_program_52 : decode cX12_program 52 = .ok (.invokevirtual 119, 3) := by decide +kernel
theorem dX12_program_55 : decode cX12_program 55 = .ok (.aload_n 0, 1) := by decide +kernel
theorem dX12_program_56 : decode cX12_program 56 = .ok (.getfield 35, 3) := by decide +kernel
theorem dX12_program_59 : decode cX12_program 59 = .ok (.iload_n 3, 1) := by decide +kernel
theorem dX12_program_60 : decode cX12_program 60 = .ok (.iaload, 1) := by decide +kernel
theorem dX12_program_61 : decode cX12_program 61 = .ok (.if_icmp .ne 12, 3) := by decide +kernel
theorem dX12_program_64 : decode cX12_program 64 = .ok (.aload_n 0, 1) := by decide +kernel
theorem dX12_program_65 : decode cX12_program 65 = .ok (.iload 4, 2) := by decide +kernel
theorem dX12_program_67 : decode cX12_program 67 = .ok (.invokevirtual 125, 3) := by decide +kernel
theorem dX12_program_70 : decode cX12_program 70 = .ok (.ifCond .eq 7, 3) := by decide +kernel
theorem dX12_program_73 : decode cX12_program 73 = .ok (.iconst 1, 1) := by decide +kernel
theorem dX12_program_74 : decode cX12_program 74 = .ok (.goto 4, 3) := by decide +kernel
theorem dX12_program_77 : decode cX12_program 77 = .ok (.iconst 0, 1) := by decide +kernel
theorem dX12_program_78 : decode cX12_program 78 = .ok (.istore 5, 2) := by decide +kernel
theorem dX12_program_80 : decode cX12_program 80 = .ok (.iload_n 2, 1) := by decide +kernel
theorem dX12_program_81 : decode cX12_program 81 = .ok (.iload 5, 2) := by decide +kernel
theorem dX12_program_83 : decode cX12_program 83 = .ok (.ifCond .eq 7, 3) := by decide +kernel
theorem dX12_program_86 : decode cX12_program 86 = .ok (.iconst 1, 1) := by decide +kernel
theorem dX12_program_87 : decode cX12_program 87 = .ok (.goto 4, 3) := by decide +kernel
theorem dX12_program_90 : decode cX12_program 90 = .ok (.iconst 0, 1) := by decide +kernel
theorem dX12_program_91 : decode cX12_program 91 = .ok (.iadd, 1) := by decide +kernel
theorem dX12_program_92 : decode cX12_program 92 = .ok (.istore_n 2, 1) := by decide +kernel
theorem dX12_program_93 : decode cX12_program 93 = .ok (.aload_n 0, 1) := by decide +kernel
theorem dX12_program_94 : decode cX12_program 94 = .ok (.getfield 9, 3) := by decide +kernel
theorem dX12_program_97 : decode cX12_program 97 = .ok (.iload 4, 2) := by decide +kernel
theorem dX12_program_99 : decode cX12_program 99 = .ok (.aload_n 0, 1) := by decide +kernel
theorem dX12_program_100 : decode cX12_program 100 = .ok (.getfield 35, 3) := by decide +kernel
theorem dX12_program_103 : decode cX12_program 103 = .ok (.iload_n 3, 1) := by decide +kernel
theorem dX12_program_104 : decode cX12_program 104 = .ok (.iaload, 1) := by decide +kernel
theorem dX12_program_105 : decode cX12_program 105 = .ok (.iconst (-1), 1) := by decide +kernel
theorem dX12_program_106 : decode cX12_program 106 = .ok (.iconst 0, 1) := by decide +kernel
theorem dX12_program_107 : decode cX12_program 107 = .ok (.aload_n 0, 1) := by decide +kernel
theorem dX12_program_108 : decode cX12_program 108 = .ok (.iload 4, 2) := by decide +kernel
theorem dX12_program_110 : decode cX12_program 110 = .ok (.invokevirtual 208, 3) := by decide +kernel
theorem dX12_program_113 : decode cX12_program 113 = .ok (.invokestatic 274, 3) := by decide +kernel
theorem dX12_program_116 : decode cX12_program 116 = .ok (.iinc 3 1, 3) := by decide +kernel
theorem dX12_program_119 : decode cX12_program 119 = .ok (.goto (-87), 3) := by decide +kernel
theorem dX12_program_122 : decode cX12_program 122 = .ok (.iload_n 2, 1) := by decide +kernel
theorem dX12_program_123 : decode cX12_program 123 = .ok (.ireturn, 1) := by decide +kernel
theorem dX12_change_0 : decode cX12_change 0 = .ok (.aload_n 0, 1) := by decide +kernel
theorem dX12_change_1 : decode cX12_change 1 = .ok (.invokevirtual 292, 3) := by decide +kernel
theorem dX12_change_4 : decode cX12_change 4 = .ok (.aload_n 0, 1) := by decide +kernel
theorem dX12_change_5 : decode cX12_change 5 = .ok (.getfield 9, 3) := by decide +kernel
theorem dX12_change_8 : decode cX12_change 8 = .ok (.iload_n 1, 1) := by decide +kernel
theorem dX12_change_9 : decode cX12_change 9 = .ok (.iaload, 1) := by decide +kernel
theorem dX12_change_10 : decode cX12_change 10 = .ok (.istore_n 3, 1) := by decide +kernel
theorem dX12_change_11 : decode cX12_change 11 = .ok (.aload_n 0, 1) := by decide +kernel
theorem dX12_change_12 : decode cX12_change 12 = .ok (.getfield 9, 3) := by decide +kernel
theorem dX12_change_15 : decode cX12_change 15 = .ok (.iload_n 1, 1) := by decide +kernel
theorem dX12_change_16 : decode cX12_change 16 = .ok (.iload_n 2, 1) := by decide +kernel
theorem dX12_change_17 : decode cX12_change 17 = .ok (.iastore, 1) := by decide +kernel
theorem dX12_change_18 : decode cX12_change 18 = .ok (.iload_n 3, 1) := by decide +kernel
theorem dX12_change_19 : decode cX12_change 19 = .ok (.ireturn, 1) := by decide +kernel
theorem dX12_setHoldover_0 : decode cX12_setHoldover 0 = .ok (.aload_n 0, 1) := by decide +kernel
theorem dX12_setHoldover_1 : decode cX12_setHoldover 1 = .ok (.aload_n 0, 1) := by decide +kernel
theorem dX12_setHoldover_2 : decode cX12_setHoldover 2 = .ok (.iload_n 1, 1) := by decide +kernel
theorem dX12_setHoldover_3 : decode cX12_setHoldover 3 = .ok (.invokevirtual 241, 3) := by decide +kernel
theorem dX12_setHoldover_6 : decode cX12_setHoldover 6 = .ok (.ifCond .ne 7, 3) := by decide +kernel
theorem dX12_setHoldover_9 : decode cX12_setHoldover 9 = .ok (.iconst 1, 1) := by decide +kernel
theorem dX12_setHoldover_10 : decode cX12_setHoldover 10 = .ok (.goto 18, 3) := by decide +kernel
theorem dX12_setHoldover_13 : decode cX12_setHoldover 13 = .ok (.iload_n 2, 1) := by decide +kernel
theorem dX12_setHoldover_14 : decode cX12_setHoldover 14 = .ok (.iconst 1, 1) := by decide +kernel
theorem dX12_setHoldover_15 : decode cX12_setHoldover 15 = .ok (.bipush 100, 2) := by decide +kernel
theorem dX12_setHoldover_17 : decode cX12_setHoldover 17 = .ok (.invokestatic 109, 3) := by decide +kernel
theorem dX12_setHoldover_20 : decode cX12_setHoldover 20 = .ok (.ifCond .eq 7, 3) := by decide +kernel
theorem dX12_setHoldover_23 : decode cX12_setHoldover 23 = .ok (.iconst 0, 1) := by decide +kernel
theorem dX12_setHoldover_24 : decode cX12_setHoldover 24 = .ok (.goto 4, 3) := by decide +kernel
theorem dX12_setHoldover_27 : decode cX12_setHoldover 27 = .ok (.iconst 2, 1) := by decide +kernel
theorem dX12_setHoldover_28 : decode cX12_setHoldover 28 = .ok (.putfield 89, 3) := by decide +kernel
theorem dX12_setHoldover_31 : decode cX12_setHoldover 31 = .ok (.aload_n 0, 1) := by decide +kernel
theorem dX12_setHoldover_32 : decode cX12_setHoldover 32 = .ok (.getfield 89, 3) := by decide +kernel
theorem dX12_setHoldover_35 : decode cX12_setHoldover 35 = .ok (.ifCond .ne 16, 3) := by decide +kernel
theorem dX12_setHoldover_38 : decode cX12_setHoldover 38 = .ok (.aload_n 0, 1) := by decide +kernel
theorem dX12_setHoldover_39 : decode cX12_setHoldover 39 = .ok (.iload_n 1, 1) := by decide +kernel
theorem dX12_setHoldover_40 : decode cX12_setHoldover 40 = .ok (.iconst 1, 1) := by decide +kernel
theorem dX12_setHoldover_41 : decode cX12_setHoldover 41 = .ok (.invokestatic 92, 3) := by decide +kernel
theorem dX12_setHoldover_44 : decode cX12_setHoldover 44 = .ok (.iload_n 2, 1) := by decide +kernel
theorem dX12_setHoldover_45 : decode cX12_setHoldover 45 = .ok (.invokevirtual 308, 3) := by decide +kernel
theorem dX12_setHoldover_48 : decode cX12_setHoldover 48 = .ok (.goto 4, 3) := by decide +kernel
theorem dX12_setHoldover_51 : decode cX12_setHoldover 51 = .ok (.iconst 0, 1) := by decide +kernel
theorem dX12_setHoldover_52 : decode cX12_setHoldover 52 = .ok (.ireturn, 1) := by decide +kernel
theorem dX12_setRent_0 : decode cX12_setRent 0 = .ok (.aload_n 0, 1) := by decide +kernel
theorem dX12_setRent_1 : decode cX12_setRent 1 = .ok (.aload_n 0, 1) := by decide +kernel
theorem dX12_setRent_2 : decode cX12_setRent 2 = .ok (.iload_n 1, 1) := by decide +kernel
theorem dX12_setRent_3 : decode cX12_setRent 3 = .ok (.invokevirtual 256, 3) := by decide +kernel
theorem dX12_setRent_6 : decode cX12_setRent 6 = .ok (.ifCond .ne 7, 3) := by decide +kernel
theorem dX12_setRent_9 : decode cX12_setRent 9 = .ok (.iconst 1, 1) := by decide +kernel
theorem dX12_setRent_10 : decode cX12_setRent 10 = .ok (.goto 19, 3) := by decide +kernel
theorem dX12_setRent_13 : decode cX12_setRent 13 = .ok (.iload_n 2, 1) := by decide +kernel
theorem dX12_setRent_14 : decode cX12_setRent 14 = .ok (.iconst 0, 1) := by decide +kernel
theorem dX12_setRent_15 : decode cX12_setRent 15 = .ok (.sipush 9999, 3) := by decide +kernel
theorem dX12_setRent_18 : decode cX12_setRent 18 = .ok (.invokestatic 109, 3) := by decide +kernel
theorem dX12_setRent_21 : decode cX12_setRent 21 = .ok (.ifCond .eq 7, 3) := by decide +kernel
theorem dX12_setRent_24 : decode cX12_setRent 24 = .ok (.iconst 0, 1) := by decide +kernel
theorem dX12_setRent_25 : decode cX12_setRent 25 = .ok (.goto 4, 3) := by decide +kernel
theorem dX12_setRent_28 : decode cX12_setRent 28 = .ok (.iconst 2, 1) := by decide +kernel
theorem dX12_setRent_29 : decode cX12_setRent 29 = .ok (.putfield 89, 3) := by decide +kernel
theorem dX12_setRent_32 : decode cX12_setRent 32 = .ok (.aload_n 0, 1) := by decide +kernel
theorem dX12_setRent_33 : decode cX12_setRent 33 = .ok (.getfield 89, 3) := by decide +kernel
theorem dX12_setRent_36 : decode cX12_setRent 36 = .ok (.ifCond .ne 16, 3) := by decide +kernel
theorem dX12_setRent_39 : decode cX12_setRent 39 = .ok (.aload_n 0, 1) := by decide +kernel
theorem dX12_setRent_40 : decode cX12_setRent 40 = .ok (.iload_n 1, 1) := by decide +kernel
theorem dX12_setRent_41 : decode cX12_setRent 41 = .ok (.iconst 3, 1) := by decide +kernel
theorem dX12_setRent_42 : decode cX12_setRent 42 = .ok (.invokestatic 96, 3) := by decide +kernel
theorem dX12_setRent_45 : decode cX12_setRent 45 = .ok (.iload_n 2, 1) := by decide +kernel
theorem dX12_setRent_46 : decode cX12_setRent 46 = .ok (.invokevirtual 308, 3) := by decide +kernel
theorem dX12_setRent_49 : decode cX12_setRent 49 = .ok (.goto 4, 3) := by decide +kernel
theorem dX12_setRent_52 : decode cX12_setRent 52 = .ok (.iconst 0, 1) := by decide +kernel
theorem dX12_setRent_53 : decode cX12_setRent 53 = .ok (.ireturn, 1) := by decide +kernel
theorem dX12_setFee_0 : decode cX12_setFee 0 = .ok (.aload_n 0, 1) := by decide +kernel
theorem dX12_setFee_1 : decode cX12_setFee 1 = .ok (.iconst 0, 1) := by decide +kernel
theorem dX12_setFee_2 : decode cX12_setFee 2 = .ok (.putfield 89, 3) := by decide +kernel
theorem dX12_setFee_5 : decode cX12_setFee 5 = .ok (.iload_n 1, 1) := by decide +kernel
theorem dX12_setFee_6 : decode cX12_setFee 6 = .ok (.iconst 0, 1) := by decide +kernel
theorem dX12_setFee_7 : decode cX12_setFee 7 = .ok (.sipush 999, 3) := by decide +kernel
theorem dX12_setFee_10 : decode cX12_setFee 10 = .ok (.invokestatic 109, 3) := by decide +kernel
theorem dX12_setFee_13 : decode cX12_setFee 13 = .ok (.ifCond .eq 12, 3) := by decide +kernel
theorem dX12_setFee_16 : decode cX12_setFee 16 = .ok (.aload_n 0, 1) := by decide +kernel
theorem dX12_setFee_17 : decode cX12_setFee 17 = .ok (.iconst 4, 1) := by decide +kernel
theorem dX12_setFee_18 : decode cX12_setFee 18 = .ok (.iload_n 1, 1) := by decide +kernel
theorem dX12_setFee_19 : decode cX12_setFee 19 = .ok (.invokevirtual 308, 3) := by decide +kernel
theorem dX12_setFee_22 : decode cX12_setFee 22 = .ok (.goto 8, 3) := by decide +kernel
theorem dX12_setFee_25 : decode cX12_setFee 25 = .ok (.aload_n 0, 1) := by decide +kernel
theorem dX12_setFee_26 : decode cX12_setFee 26 = .ok (.iconst 1, 1) := by decide +kernel
theorem dX12_setFee_27 : decode cX12_setFee 27 = .ok (.invokevirtual 238, 3) := by decide +kernel
theorem dX12_setFee_30 : decode cX12_setFee 30 = .ok (.ireturn, 1) := by decide +kernel
theorem dX12_write_0 : decode cX12_write 0 = .ok (.aload_n 0, 1) := by decide +kernel
theorem dX12_write_1 : decode cX12_write 1 = .ok (.getfield 44, 3) := by decide +kernel
theorem dX12_write_4 : decode cX12_write 4 = .ok (.aload_n 0, 1) := by decide +kernel
theorem dX12_write_5 : decode cX12_write 5 = .ok (.getfield 311, 3) := by decide +kernel
theorem dX12_write_8 : decode cX12_write 8 = .ok (.iload_n 1, 1) := by decide +kernel
theorem dX12_write_9 : decode cX12_write 9 = .ok (.iastore, 1) := by decide +kernel
theorem dX12_write_10 : decode cX12_write 10 = .ok (.aload_n 0, 1) := by decide +kernel
theorem dX12_write_11 : decode cX12_write 11 = .ok (.dup, 1) := by decide +kernel
theorem dX12_write_12 : decode cX12_write 12 = .ok (.getfield 311, 3) := by decide +kernel
theorem dX12_write_15 : decode cX12_write 15 = .ok (.iconst 1, 1) := by decide +kernel
theorem dX12_write_16 : decode cX12_write 16 = .ok (.iadd, 1) := by decide +kernel
theorem dX12_write_17 : decode cX12_write 17 = .ok (.putfield 311, 3) := by decide +kernel
theorem dX12_write_20 : decode cX12_write 20 = .ok (.return_, 1) := by decide +kernel
theorem dX12_format_0 : decode cX12_format 0 = .ok (.aload_n 0, 1) := by decide +kernel
theorem dX12_format_1 : decode cX12_format 1 = .ok (.iconst 0, 1) := by decide +kernel
theorem dX12_format_2 : decode cX12_format 2 = .ok (.putfield 89, 3) := by decide +kernel
theorem dX12_format_5 : decode cX12_format 5 = .ok (.aload_n 0, 1) := by decide +kernel
theorem dX12_format_6 : decode cX12_format 6 = .ok (.iload_n 1, 1) := by decide +kernel
theorem dX12_format_7 : decode cX12_format 7 = .ok (.invokevirtual 256, 3) := by decide +kernel
theorem dX12_format_10 : decode cX12_format 10 = .ok (.ifCond .ne 9, 3) := by decide +kernel
theorem dX12_format_13 : decode cX12_format 13 = .ok (.aload_n 0, 1) := by decide +kernel
theorem dX12_format_14 : decode cX12_format 14 = .ok (.iconst 1, 1) := by decide +kernel
theorem dX12_format_15 : decode cX12_format 15 = .ok (.invokevirtual 238, 3) := by decide +kernel
theorem dX12_format_18 : decode cX12_format 18 = .ok (.ireturn, 1) := by decide +kernel
theorem dX12_format_19 : decode cX12_format 19 = .ok (.aload_n 0, 1) := by decide +kernel
theorem dX12_format_20 : decode cX12_format 20 = .ok (.iconst 0, 1) := by decide +kernel
theorem dX12_format_21 : decode cX12_format 21 = .ok (.putfield 311, 3) := by decide +kernel
theorem dX12_format_24 : decode cX12_format 24 = .ok (.aload_n 0, 1) := by decide +kernel
theorem dX12_format_25 : decode cX12_format 25 = .ok (.bipush 115, 2) := by decide +kernel
theorem dX12_format_27 : decode cX12_format 27 = .ok (.invokevirtual 314, 3) := by decide +kernel
theorem dX12_format_30 : decode cX12_format 30 = .ok (.aload_n 0, 1) := by decide +kernel
theorem dX12_format_31 : decode cX12_format 31 = .ok (.bipush 48, 2) := by decide +kernel
theorem dX12_format_33 : decode cX12_format 33 = .ok (.iload_n 1, 1) := by decide +kernel
theorem dX12_format_34 : decode cX12_format 34 = .ok (.iadd, 1) := by decide +kernel
theorem dX12_format_35 : decode cX12_format 35 = .ok (.invokevirtual 314, 3) := by decide +kernel
theorem dX12_format_38 : decode cX12_format 38 = .ok (.aload_n 0, 1) := by decide +kernel
theorem dX12_format_39 : decode cX12_format 39 = .ok (.bipush 58, 2) := by decide +kernel
theorem dX12_format_41 : decode cX12_format 41 = .ok (.invokevirtual 314, 3) := by decide +kernel
theorem dX12_format_44 : decode cX12_format 44 = .ok (.iconst 0, 1) := by decide +kernel
theorem dX12_format_45 : decode cX12_format 45 = .ok (.istore_n 2, 1) := by decide +kernel
theorem dX12_format_46 : decode cX12_format 46 = .ok (.iload_n 2, 1) := by decide +kernel
theorem dX12_format_47 : decode cX12_format 47 = .ok (.bipush 7, 2) := by decide +kernel
theorem dX12_format_49 : decode cX12_format 49 = .ok (.if_icmp .ge 40, 3) := by decide +kernel
theorem dX12_format_52 : decode cX12_format 52 = .ok (.aload_n 0, 1) := by decide +kernel
theorem dX12_format_53 : decode cX12_format 53 = .ok (.iload_n 1, 1) := by decide +kernel
theorem dX12_format_54 : decode cX12_format 54 = .ok (.iload_n 2, 1) := by decide +kernel
theorem dX12_format_55 : decode cX12_format 55 = .ok (.invokevirtual 129, 3) := by decide +kernel
theorem dX12_format_58 : decode cX12_format 58 = .ok (.istore_n 3, 1) := by decide +kernel
theorem dX12_format_59 : decode cX12_format 59 = .ok (.aload_n 0, 1) := by decide +kernel
theorem dX12_format_60 : decode cX12_format 60 = .ok (.bipush 32, 2) := by decide +kernel
theorem dX12_format_62 : decode cX12_format 62 = .ok (.invokevirtual 314, 3) := by decide +kernel
theorem dX12_format_65 : decode cX12_format 65 = .ok (.aload_n 0, 1) := by decide +kernel
theorem dX12_format_66 : decode cX12_format 66 = .ok (.iload_n 3, 1) := by decide +kernel
theorem dX12_format_67 : decode cX12_format 67 = .ok (.iconst (-1), 1) := by decide +kernel
theorem dX12_format_68 : decode cX12_format 68 = .ok (.if_icmp .ne 8, 3) := by decide +kernel
theorem dX12_format_71 : decode cX12_format 71 = .ok (.bipush 45, 2) := by decide +kernel
theorem dX12_format_73 : decode cX12_format 73 = .ok (.goto 7, 3) := by decide +kernel
theorem dX12_format_76 : decode cX12_format 76 = .ok (.bipush 48, 2) := by decide +kernel
theorem dX12_format_78 : decode cX12_format 78 = .ok (.iload_n 3, 1) := by decide +kernel
theorem dX12_format_79 : decode cX12_format 79 = .ok (.iadd, 1) := by decide +kernel
theorem dX12_format_80 : decode cX12_format 80 = .ok (.invokevirtual 314, 3) := by decide +kernel
theorem dX12_format_83 : decode cX12_format 83 = .ok (.iinc 2 1, 3) := by decide +kernel
theorem dX12_format_86 : decode cX12_format 86 = .ok (.goto (-40), 3) := by decide +kernel
theorem dX12_format_89 : decode cX12_format 89 = .ok (.aload_n 0, 1) := by decide +kernel
theorem dX12_format_90 : decode cX12_format 90 = .ok (.iload_n 1, 1) := by decide +kernel
theorem dX12_format_91 : decode cX12_format 91 = .ok (.invokevirtual 208, 3) := by decide +kernel
theorem dX12_format_94 : decode cX12_format 94 = .ok (.ifCond .eq 9, 3) := by decide +kernel
theorem dX12_format_97 : decode cX12_format 97 = .ok (.ldc_w 317, 3) := by decide +kernel
theorem dX12_format_100 : decode cX12_format 100 = .ok (.goto 6, 3) := by decide +kernel
theorem dX12_format_103 : decode cX12_format 103 = .ok (.ldc_w 319, 3) := by decide +kernel
theorem dX12_format_106 : decode cX12_format 106 = .ok (.astore_n 2, 1) := by decide +kernel
theorem dX12_format_107 : decode cX12_format 107 = .ok (.iconst 0, 1) := by decide +kernel
theorem dX12_format_108 : decode cX12_format 108 = .ok (.istore_n 3, 1) := by decide +kernel
theorem dX12_format_109 : decode cX12_format 109 = .ok (.iload_n 3, 1) := by decide +kernel
theorem dX12_format_110 : decode cX12_format 110 = .ok (.aload_n 2, 1) := by decide +kernel
theorem dX12_format_111 : decode cX12_format 111 = .ok (.invokevirtual 321, 3) := by decide +kernel
theorem dX12_format_114 : decode cX12_format 114 = .ok (.if_icmp .ge 18, 3) := by decide +kernel
theorem dX12_format_117 : decode cX12_format 117 = .ok (.aload_n 0, 1) := by decide +kernel
theorem dX12_format_118 : decode cX12_format 118 = .ok (.aload_n 2, 1) := by decide +kernel
theorem dX12_format_119 : decode cX12_format 119 = .ok (.iload_n 3, 1) := by decide +kernel
theorem dX12_format_120 : decode cX12_format 120 = .ok (.invokevirtual 324, 3) := by decide +kernel
theorem dX12_format_123 : decode cX12_format 123 = .ok (.invokevirtual 314, 3) := by decide +kernel
theorem dX12_format_126 : decode cX12_format 126 = .ok (.iinc 3 1, 3) := by decide +kernel
theorem dX12_format_129 : decode cX12_format 129 = .ok (.goto (-20), 3) := by decide +kernel
theorem dX12_format_132 : decode cX12_format 132 = .ok (.aload_n 0, 1) := by decide +kernel
theorem dX12_format_133 : decode cX12_format 133 = .ok (.getfield 311, 3) := by decide +kernel
theorem dX12_format_136 : decode cX12_format 136 = .ok (.ireturn, 1) := by decide +kernel
theorem dX12_formattedByte_0 : decode cX12_formattedByte 0 = .ok (.aload_n 0, 1) := by decide +kernel
theorem dX12_formattedByte_1 : decode cX12_formattedByte 1 = .ok (.iconst 0, 1) := by decide +kernel
theorem dX12_formattedByte_2 : decode cX12_formattedByte 2 = .ok (.putfield 89, 3) := by decide +kernel
theorem dX12_formattedByte_5 : decode cX12_formattedByte 5 = .ok (.iload_n 1, 1) := by decide +kernel
theorem dX12_formattedByte_6 : decode cX12_formattedByte 6 = .ok (.iconst 0, 1) := by decide +kernel
theorem dX12_formattedByte_7 : decode cX12_formattedByte 7 = .ok (.aload_n 0, 1) := by decide +kernel
theorem dX12_formattedByte_8 : decode cX12_formattedByte 8 = .ok (.getfield 311, 3) := by decide +kernel
theorem dX12_formattedByte_11 : decode cX12_formattedByte 11 = .ok (.iconst 1, 1) := by decide +kernel
theorem dX12_formattedByte_12 : decode cX12_formattedByte 12 = .ok (.isub, 1) := by decide +kernel
theorem dX12_formattedByte_13 : decode cX12_formattedByte 13 = .ok (.invokestatic 109, 3) := by decide +kernel
theorem dX12_formattedByte_16 : decode cX12_formattedByte 16 = .ok (.ifCond .eq 12, 3) := by decide +kernel
theorem dX12_formattedByte_19 : decode cX12_formattedByte 19 = .ok (.aload_n 0, 1) := by decide +kernel
theorem dX12_formattedByte_20 : decode cX12_formattedByte 20 = .ok (.getfield 44, 3) := by decide +kernel
theorem dX12_formattedByte_23 : decode cX12_formattedByte 23 = .ok (.iload_n 1, 1) := by decide +kernel
theorem dX12_formattedByte_24 : decode cX12_formattedByte 24 = .ok (.iaload, 1) := by decide +kernel
theorem dX12_formattedByte_25 : decode cX12_formattedByte 25 = .ok (.goto 4, 3) := by decide +kernel
theorem dX12_formattedByte_28 : decode cX12_formattedByte 28 = .ok (.iconst (-1), 1) := by decide +kernel
theorem dX12_formattedByte_29 : decode cX12_formattedByte 29 = .ok (.ireturn, 1) := by decide +kernel
theorem dX12_copy_0 : decode cX12_copy 0 = .ok (.iconst 0, 1) := by decide +kernel
theorem dX12_copy_1 : decode cX12_copy 1 = .ok (.istore 4, 2) := by decide +kernel
theorem dX12_copy_3 : decode cX12_copy 3 = .ok (.iload 4, 2) := by decide +kernel
theorem dX12_copy_5 : decode cX12_copy 5 = .ok (.sipush 312, 3) := by decide +kernel
theorem dX12_copy_8 : decode cX12_copy 8 = .ok (.if_icmp .ge 29, 3) := by decide +kernel
theorem dX12_copy_11 : decode cX12_copy 11 = .ok (.aload_n 2, 1) := by decide +kernel
theorem dX12_copy_12 : decode cX12_copy 12 = .ok (.sipush 312, 3) := by decide +kernel
theorem dX12_copy_15 : decode cX12_copy 15 = .ok (.iload_n 3, 1) := by decide +kernel
theorem dX12_copy_16 : decode cX12_copy 16 = .ok (.imul, 1) := by decide +kernel
theorem dX12_copy_17 : decode cX12_copy 17 = .ok (.iload 4, 2) := by decide +kernel
theorem dX12_copy_19 : decode cX12_copy 19 = .ok (.iadd, 1) := by decide +kernel
theorem dX12_copy_20 : decode cX12_copy 20 = .ok (.aload_n 0, 1) := by decide +kernel
theorem dX12_copy_21 : decode cX12_copy 21 = .ok (.sipush 312, 3) := by decide +kernel
theorem dX12_copy_24 : decode cX12_copy 24 = .ok (.iload_n 1, 1) := by decide +kernel
theorem dX12_copy_25 : decode cX12_copy 25 = .ok (.imul, 1) := by decide +kernel
theorem dX12_copy_26 : decode cX12_copy 26 = .ok (.iload 4, 2) := by decide +kernel
theorem dX12_copy_28 : decode cX12_copy 28 = .ok (.iadd, 1) := by decide +kernel
theorem dX12_copy_29 : decode cX12_copy 29 = .ok (.iaload, 1) := by decide +kernel
theorem dX12_copy_30 : decode cX12_copy 30 = .ok (.iastore, 1) := by decide +kernel
theorem dX12_copy_31 : decode cX12_copy 31 = .ok (.iinc 4 1, 3) := by decide +kernel
theorem dX12_copy_34 : decode cX12_copy 34 = .ok (.goto (-31), 3) := by decide +kernel
theorem dX12_copy_37 : decode cX12_copy 37 = .ok (.return_, 1) := by decide +kernel
theorem dX12_record_0 : decode cX12_record 0 = .ok (.aload_n 0, 1) := by decide +kernel
theorem dX12_record_1 : decode cX12_record 1 = .ok (.getfield 328, 3) := by decide +kernel
theorem dX12_record_4 : decode cX12_record 4 = .ok (.bipush 10, 2) := by decide +kernel
theorem dX12_record_6 : decode cX12_record 6 = .ok (.if_icmp .ne 42, 3) := by decide +kernel
theorem dX12_record_9 : decode cX12_record 9 = .ok (.iconst 1, 1) := by decide +kernel
theorem dX12_record_10 : decode cX12_record 10 = .ok (.istore_n 1, 1) := by decide +kernel
theorem dX12_record_11 : decode cX12_record 11 = .ok (.iload_n 1, 1) := by decide +kernel
theorem dX12_record_12 : decode cX12_record 12 = .ok (.bipush 10, 2) := by decide +kernel
theorem dX12_record_14 : decode cX12_record 14 = .ok (.if_icmp .ge 24, 3) := by decide +kernel
theorem dX12_record_17 : decode cX12_record 17 = .ok (.aload_n 0, 1) := by decide +kernel
theorem dX12_record_18 : decode cX12_record 18 = .ok (.getfield 19, 3) := by decide +kernel
theorem dX12_record_21 : decode cX12_record 21 = .ok (.iload_n 1, 1) := by decide +kernel
theorem dX12_record_22 : decode cX12_record 22 = .ok (.aload_n 0, 1) := by decide +kernel
theorem dX12_record_23 : decode cX12_record 23 = .ok (.getfield 19, 3) := by decide +kernel
theorem dX12_record_26 : decode cX12_record 26 = .ok (.iload_n 1, 1) := by decide +kernel
theorem dX12_record_27 : decode cX12_record 27 = .ok (.iconst 1, 1) := by decide +kernel
theorem dX12_record_28 : decode cX12_record 28 = .ok (.isub, 1) := by decide +kernel
theorem dX12_record_29 : decode cX12_record 29 = .ok (.invokestatic 331, 3) := by decide +kernel
theorem dX12_record_32 : decode cX12_record 32 = .ok (.iinc 1 1, 3) := by decide +kernel
theorem dX12_record_35 : decode cX12_record 35 = .ok (.goto (-24), 3) := by decide +kernel
theorem dX12_record_38 : decode cX12_record 38 = .ok (.aload_n 0, 1) := by decide +kernel
theorem dX12_record_39 : decode cX12_record 39 = .ok (.dup, 1) := by decide +kernel
theorem dX12_record_40 : decode cX12_record 40 = .ok (.getfield 328, 3) := by decide +kernel
theorem dX12_record_43 : decode cX12_record 43 = .ok (.iconst 1, 1) := by decide +kernel
theorem dX12_record_44 : decode cX12_record 44 = .ok (.isub, 1) := by decide +kernel
theorem dX12_record_45 : decode cX12_record 45 = .ok (.putfield 328, 3) := by decide +kernel
theorem dX12_record_48 : decode cX12_record 48 = .ok (.aload_n 0, 1) := by decide +kernel
theorem dX12_record_49 : decode cX12_record 49 = .ok (.getfield 9, 3) := by decide +kernel
theorem dX12_record_52 : decode cX12_record 52 = .ok (.iconst 0, 1) := by decide +kernel
theorem dX12_record_53 : decode cX12_record 53 = .ok (.aload_n 0, 1) := by decide +kernel
theorem dX12_record_54 : decode cX12_record 54 = .ok (.getfield 19, 3) := by decide +kernel
theorem dX12_record_57 : decode cX12_record 57 = .ok (.aload_n 0, 1) := by decide +kernel
theorem dX12_record_58 : decode cX12_record 58 = .ok (.getfield 328, 3) := by decide +kernel
theorem dX12_record_61 : decode cX12_record 61 = .ok (.invokestatic 331, 3) := by decide +kernel
theorem dX12_record_64 : decode cX12_record 64 = .ok (.aload_n 0, 1) := by decide +kernel
theorem dX12_record_65 : decode cX12_record 65 = .ok (.dup, 1) := by decide +kernel
theorem dX12_record_66 : decode cX12_record 66 = .ok (.getfield 328, 3) := by decide +kernel
theorem dX12_record_69 : decode cX12_record 69 = .ok (.iconst 1, 1) := by decide +kernel
theorem dX12_record_70 : decode cX12_record 70 = .ok (.iadd, 1) := by decide +kernel
theorem dX12_record_71 : decode cX12_record 71 = .ok (.putfield 328, 3) := by decide +kernel
theorem dX12_record_74 : decode cX12_record 74 = .ok (.return_, 1) := by decide +kernel
theorem dX12_undoCount_0 : decode cX12_undoCount 0 = .ok (.aload_n 0, 1) := by decide +kernel
theorem dX12_undoCount_1 : decode cX12_undoCount 1 = .ok (.iconst 0, 1) := by decide +kernel
theorem dX12_undoCount_2 : decode cX12_undoCount 2 = .ok (.putfield 89, 3) := by decide +kernel
theorem dX12_undoCount_5 : decode cX12_undoCount 5 = .ok (.aload_n 0, 1) := by decide +kernel
theorem dX12_undoCount_6 : decode cX12_undoCount 6 = .ok (.getfield 328, 3) := by decide +kernel
theorem dX12_undoCount_9 : decode cX12_undoCount 9 = .ok (.ireturn, 1) := by decide +kernel
theorem dX12_undo_0 : decode cX12_undo 0 = .ok (.aload_n 0, 1) := by decide +kernel
theorem dX12_undo_1 : decode cX12_undo 1 = .ok (.iconst 0, 1) := by decide +kernel
theorem dX12_undo_2 : decode cX12_undo 2 = .ok (.putfield 89, 3) := by decide +kernel
theorem dX12_undo_5 : decode cX12_undo 5 = .ok (.aload_n 0, 1) := by decide +kernel
theorem dX12_undo_6 : decode cX12_undo 6 = .ok (.getfield 328, 3) := by decide +kernel
theorem dX12_undo_9 : decode cX12_undo 9 = .ok (.ifCond .ne 5, 3) := by decide +kernel
theorem dX12_undo_12 : decode cX12_undo 12 = .ok (.iconst (-1), 1) := by decide +kernel
theorem dX12_undo_13 : decode cX12_undo 13 = .ok (.ireturn, 1) := by decide +kernel
theorem dX12_undo_14 : decode cX12_undo 14 = .ok (.aload_n 0, 1) := by decide +kernel
theorem dX12_undo_15 : decode cX12_undo 15 = .ok (.dup, 1) := by decide +kernel
theorem dX12_undo_16 : decode cX12_undo 16 = .ok (.getfield 328, 3) := by decide +kernel
theorem dX12_undo_19 : decode cX12_undo 19 = .ok (.iconst 1, 1) := by decide +kernel
theorem dX12_undo_20 : decode cX12_undo 20 = .ok (.isub, 1) := by decide +kernel
theorem dX12_undo_21 : decode cX12_undo 21 = .ok (.putfield 328, 3) := by decide +kernel
theorem dX12_undo_24 : decode cX12_undo 24 = .ok (.aload_n 0, 1) := by decide +kernel
theorem dX12_undo_25 : decode cX12_undo 25 = .ok (.getfield 19, 3) := by decide +kernel
theorem dX12_undo_28 : decode cX12_undo 28 = .ok (.aload_n 0, 1) := by decide +kernel
theorem dX12_undo_29 : decode cX12_undo 29 = .ok (.getfield 328, 3) := by decide +kernel
theorem dX12_undo_32 : decode cX12_undo 32 = .ok (.aload_n 0, 1) := by decide +kernel
theorem dX12_undo_33 : decode cX12_undo 33 = .ok (.getfield 9, 3) := by decide +kernel
theorem dX12_undo_36 : decode cX12_undo 36 = .ok (.iconst 0, 1) := by decide +kernel
theorem dX12_undo_37 : decode cX12_undo 37 = .ok (.invokestatic 331, 3) := by decide +kernel
theorem dX12_undo_40 : decode cX12_undo 40 = .ok (.aload_n 0, 1) := by decide +kernel
theorem dX12_undo_41 : decode cX12_undo 41 = .ok (.getfield 328, 3) := by decide +kernel
theorem dX12_undo_44 : decode cX12_undo 44 = .ok (.ireturn, 1) := by decide +kernel
theorem dX12_saveSnapshot_0 : decode cX12_saveSnapshot 0 = .ok (.aload_n 0, 1) := by decide +kernel
theorem dX12_saveSnapshot_1 : decode cX12_saveSnapshot 1 = .ok (.iconst 0, 1) := by decide +kernel
theorem dX12_saveSnapshot_2 : decode cX12_saveSnapshot 2 = .ok (.putfield 89, 3) := by decide +kernel
theorem dX12_saveSnapshot_5 : decode cX12_saveSnapshot 5 = .ok (.aload_n 0, 1) := by decide +kernel
theorem dX12_saveSnapshot_6 : decode cX12_saveSnapshot 6 = .ok (.getfield 9, 3) := by decide +kernel
theorem dX12_saveSnapshot_9 : decode cX12_saveSnapshot 9 = .ok (.iconst 0, 1) := by decide +kernel
theorem dX12_saveSnapshot_10 : decode cX12_saveSnapshot 10 = .ok (.aload_n 0, 1) := by decide +kernel
theorem dX12_saveSnapshot_11 : decode cX12_saveSnapshot 11 = .ok (.getfield 16, 3) := by decide +kernel
theorem dX12_saveSnapshot_14 : decode cX12_saveSnapshot 14 = .ok (.iconst 0, 1) := by decide +kernel
theorem dX12_saveSnapshot_15 : decode cX12_saveSnapshot 15 = .ok (.invokestatic 331, 3) := by decide +kernel
theorem dX12_saveSnapshot_18 : decode cX12_saveSnapshot 18 = .ok (.aload_n 0, 1) := by decide +kernel
theorem dX12_saveSnapshot_19 : decode cX12_saveSnapshot 19 = .ok (.iconst 1, 1) := by decide +kernel
theorem dX12_saveSnapshot_20 : decode cX12_saveSnapshot 20 = .ok (.putfield 335, 3) := by decide +kernel
theorem dX12_saveSnapshot_23 : decode cX12_saveSnapshot 23 = .ok (.return_, 1) := by decide +kernel
theorem dX12_restoreSnapshot_0 : decode cX12_restoreSnapshot 0 = .ok (.aload_n 0, 1) := by decide +kernel
theorem dX12_restoreSnapshot_1 : decode cX12_restoreSnapshot 1 = .ok (.iconst 0, 1) := by decide +kernel
theorem dX12_restoreSnapshot_2 : decode cX12_restoreSnapshot 2 = .ok (.putfield 89, 3) := by decide +kernel
theorem dX12_restoreSnapshot_5 : decode cX12_restoreSnapshot 5 = .ok (.aload_n 0, 1) := by decide +kernel
theorem dX12_restoreSnapshot_6 : decode cX12_restoreSnapshot 6 = .ok (.getfield 335, 3) := by decide +kernel
theorem dX12_restoreSnapshot_9 : decode cX12_restoreSnapshot 9 = .ok (.ifCond .ne 5, 3) := by decide +kernel
theorem dX12_restoreSnapshot_12 : decode cX12_restoreSnapshot 12 = .ok (.iconst 0, 1) := by decide +kernel
theorem dX12_restoreSnapshot_13 : decode cX12_restoreSnapshot 13 = .ok (.ireturn, 1) := by decide +kernel
theorem dX12_restoreSnapshot_14 : decode cX12_restoreSnapshot 14 = .ok (.aload_n 0, 1) := by decide +kernel
theorem dX12_restoreSnapshot_15 : decode cX12_restoreSnapshot 15 = .ok (.getfield 16, 3) := by decide +kernel
theorem dX12_restoreSnapshot_18 : decode cX12_restoreSnapshot 18 = .ok (.iconst 0, 1) := by decide +kernel
theorem dX12_restoreSnapshot_19 : decode cX12_restoreSnapshot 19 = .ok (.aload_n 0, 1) := by decide +kernel
theorem dX12_restoreSnapshot_20 : decode cX12_restoreSnapshot 20 = .ok (.getfield 9, 3) := by decide +kernel
theorem dX12_restoreSnapshot_23 : decode cX12_restoreSnapshot 23 = .ok (.iconst 0, 1) := by decide +kernel
theorem dX12_restoreSnapshot_24 : decode cX12_restoreSnapshot 24 = .ok (.invokestatic 331, 3) := by decide +kernel
theorem dX12_restoreSnapshot_27 : decode cX12_restoreSnapshot 27 = .ok (.aload_n 0, 1) := by decide +kernel
theorem dX12_restoreSnapshot_28 : decode cX12_restoreSnapshot 28 = .ok (.iconst 0, 1) := by decide +kernel
theorem dX12_restoreSnapshot_29 : decode cX12_restoreSnapshot 29 = .ok (.putfield 328, 3) := by decide +kernel
theorem dX12_restoreSnapshot_32 : decode cX12_restoreSnapshot 32 = .ok (.iconst 1, 1) := by decide +kernel
theorem dX12_restoreSnapshot_33 : decode cX12_restoreSnapshot 33 = .ok (.ireturn, 1) := by decide +kernel
theorem dX12_feed_0 : decode cX12_feed 0 = .ok (.aload_n 0, 1) := by decide +kernel
theorem dX12_feed_1 : decode cX12_feed 1 = .ok (.iconst 0, 1) := by decide +kernel
theorem dX12_feed_2 : decode cX12_feed 2 = .ok (.putfield 89, 3) := by decide +kernel
theorem dX12_feed_5 : decode cX12_feed 5 = .ok (.aload_n 0, 1) := by decide +kernel
theorem dX12_feed_6 : decode cX12_feed 6 = .ok (.getfield 339, 3) := by decide +kernel
theorem dX12_feed_9 : decode cX12_feed 9 = .ok (.bipush 20, 2) := by decide +kernel
theorem dX12_feed_11 : decode cX12_feed 11 = .ok (.iadd, 1) := by decide +kernel
theorem dX12_feed_12 : decode cX12_feed 12 = .ok (.sipush 700, 3) := by decide +kernel
theorem dX12_feed_15 : decode cX12_feed 15 = .ok (.if_icmp .le 5, 3) := by decide +kernel
theorem dX12_feed_18 : decode cX12_feed 18 = .ok (.iconst (-1), 1) := by decide +kernel
theorem dX12_feed_19 : decode cX12_feed 19 = .ok (.ireturn, 1) := by decide +kernel
theorem dX12_feed_20 : decode cX12_feed 20 = .ok (.iconst 0, 1) := by decide +kernel
theorem dX12_feed_21 : decode cX12_feed 21 = .ok (.istore 6, 2) := by decide +kernel
theorem dX12_feed_23 : decode cX12_feed 23 = .ok (.iload 6, 2) := by decide +kernel
theorem dX12_feed_25 : decode cX12_feed 25 = .ok (.bipush 20, 2) := by decide +kernel
theorem dX12_feed_27 : decode cX12_feed 27 = .ok (.if_icmp .ge 93, 3) := by decide +kernel
theorem dX12_feed_30 : decode cX12_feed 30 = .ok (.iload 6, 2) := by decide +kernel
theorem dX12_feed_32 : decode cX12_feed 32 = .ok (.iconst 4, 1) := by decide +kernel
theorem dX12_feed_33 : decode cX12_feed 33 = .ok (.if_icmp .ge 7, 3) := by decide +kernel
theorem dX12_feed_36 : decode cX12_feed 36 = .ok (.iload_n 1, 1) := by decide +kernel
theorem dX12_feed_37 : decode cX12_feed 37 = .ok (.goto 39, 3) := by decide +kernel
theorem dX12_feed_40 : decode cX12_feed 40 = .ok (.iload 6, 2) := by decide +kernel
theorem dX12_feed_42 : decode cX12_feed 42 = .ok (.bipush 8, 2) := by decide +kernel
theorem dX12_feed_44 : decode cX12_feed 44 = .ok (.if_icmp .ge 7, 3) := by decide +kernel
theorem dX12_feed_47 : decode cX12_feed 47 = .ok (.iload_n 2, 1) := by decide +kernel
theorem dX12_feed_48 : decode cX12_feed 48 = .ok (.goto 28, 3) := by decide +kernel
theorem dX12_feed_51 : decode cX12_feed 51 = .ok (.iload 6, 2) := by decide +kernel
theorem dX12_feed_53 : decode cX12_feed 53 = .ok (.bipush 12, 2) := by decide +kernel
theorem dX12_feed_55 : decode cX12_feed 55 = .ok (.if_icmp .ge 7, 3) := by decide +kernel
theorem dX12_feed_58 : decode cX12_feed 58 = .ok (.iload_n 3, 1) := by decide +kernel
theorem dX12_feed_59 : decode cX12_feed 59 = .ok (.goto 17, 3) := by decide +kernel
theorem dX12_feed_62 : decode cX12_feed 62 = .ok (.iload 6, 2) := by decide +kernel
theorem dX12_feed_64 : decode cX12_feed 64 = .ok (.bipush 16, 2) := by decide +kernel
theorem dX12_feed_66 : decode cX12_feed 66 = .ok (.if_icmp .ge 8, 3) := by decide +kernel
theorem dX12_feed_69 : decode cX12_feed 69 = .ok (.iload 4, 2) := by decide +kernel
theorem dX12_feed_71 : decode cX12_feed 71 = .ok (.goto 5, 3) := by decide +kernel
theorem dX12_feed_74 : decode cX12_feed 74 = .ok (.iload 5, 2) := by decide +kernel
theorem dX12_feed_76 : decode cX12_feed 76 = .ok (.istore 7, 2) := by decide +kernel
theorem dX12_feed_78 : decode cX12_feed 78 = .ok (.aload_n 0, 1) := by decide +kernel
theorem dX12_feed_79 : decode cX12_feed 79 = .ok (.getfield 47, 3) := by decide +kernel
theorem dX12_feed_82 : decode cX12_feed 82 = .ok (.aload_n 0, 1) := by decide +kernel
theorem dX12_feed_83 : decode cX12_feed 83 = .ok (.getfield 339, 3) := by decide +kernel
theorem dX12_feed_86 : decode cX12_feed 86 = .ok (.iload 7, 2) := by decide +kernel
theorem dX12_feed_88 : decode cX12_feed 88 = .ok (.bipush 24, 2) := by decide +kernel
theorem dX12_feed_90 : decode cX12_feed 90 = .ok (.bipush 8, 2) := by decide +kernel
theorem dX12_feed_92 : decode cX12_feed 92 = .ok (.iload 6, 2) := by decide +kernel
theorem dX12_feed_94 : decode cX12_feed 94 = .ok (.iconst 4, 1) := by decide +kernel
theorem dX12_feed_95 : decode cX12_feed 95 = .ok (.irem, 1) := by decide +kernel
theorem dX12_feed_96 : decode cX12_feed 96 = .ok (.imul, 1) := by decide +kernel
theorem dX12_feed_97 : decode cX12_feed 97 = .ok (.isub, 1) := by decide +kernel
theorem dX12_feed_98 : decode cX12_feed 98 = .ok (.ishr, 1) := by decide +kernel
theorem dX12_feed_99 : decode cX12_feed 99 = .ok (.sipush 255, 3) := by decide +kernel
theorem dX12_feed_102 : decode cX12_feed 102 = .ok (.iand, 1) := by decide +kernel
theorem dX12_feed_103 : decode cX12_feed 103 = .ok (.iastore, 1) := by decide +kernel
theorem dX12_feed_104 : decode cX12_feed 104 = .ok (.aload_n 0, 1) := by decide +kernel
theorem dX12_feed_105 : decode cX12_feed 105 = .ok (.dup, 1) := by decide +kernel
theorem dX12_feed_106 : decode cX12_feed 106 = .ok (.getfield 339, 3) := by decide +kernel
theorem dX12_feed_109 : decode cX12_feed 109 = .ok (.iconst 1, 1) := by decide +kernel
theorem dX12_feed_110 : decode cX12_feed 110 = .ok (.iadd, 1) := by decide +kernel
theorem dX12_feed_111 : decode cX12_feed 111 = .ok (.putfield 339, 3) := by decide +kernel
theorem dX12_feed_114 : decode cX12_feed 114 = .ok (.iinc 6 1, 3) := by decide +kernel
theorem dX12_feed_117 : decode cX12_feed 117 = .ok (.goto (-94), 3) := by decide +kernel
theorem dX12_feed_120 : decode cX12_feed 120 = .ok (.aload_n 0, 1) := by decide +kernel
theorem dX12_feed_121 : decode cX12_feed 121 = .ok (.getfield 339, 3) := by decide +kernel
theorem dX12_feed_124 : decode cX12_feed 124 = .ok (.ireturn, 1) := by decide +kernel
theorem dX12_errorPosition_0 : decode cX12_errorPosition 0 = .ok (.aload_n 0, 1) := by decide +kernel
theorem dX12_errorPosition_1 : decode cX12_errorPosition 1 = .ok (.iconst 0, 1) := by decide +kernel
theorem dX12_errorPosition_2 : decode cX12_errorPosition 2 = .ok (.putfield 89, 3) := by decide +kernel
theorem dX12_errorPosition_5 : decode cX12_errorPosition 5 = .ok (.aload_n 0, 1) := by decide +kernel
theorem dX12_errorPosition_6 : decode cX12_errorPosition 6 = .ok (.getfield 50, 3) := by decide +kernel
theorem dX12_errorPosition_9 : decode cX12_errorPosition 9 = .ok (.ireturn, 1) := by decide +kernel
theorem dX12_byteAt_0 : decode cX12_byteAt 0 = .ok (.iload_n 1, 1) := by decide +kernel
theorem dX12_byteAt_1 : decode cX12_byteAt 1 = .ok (.aload_n 0, 1) := by decide +kernel
theorem dX12_byteAt_2 : decode cX12_byteAt 2 = .ok (.getfield 342, 3) := by decide +kernel
theorem dX12_byteAt_5 : decode cX12_byteAt 5 = .ok (.if_icmp .ge 12, 3) := by decide +kernel
theorem dX12_byteAt_8 : decode cX12_byteAt 8 = .ok (.aload_n 0, 1) := by decide +kernel
theorem dX12_byteAt_9 : decode cX12_byteAt 9 = .ok (.getfield 47, 3) := by decide +kernel
theorem dX12_byteAt_12 : decode cX12_byteAt 12 = .ok (.iload_n 1, 1) := by decide +kernel
theorem dX12_byteAt_13 : decode cX12_byteAt 13 = .ok (.iaload, 1) := by decide +kernel
theorem dX12_byteAt_14 : decode cX12_byteAt 14 = .ok (.goto 4, 3) := by decide +kernel
theorem dX12_byteAt_17 : decode cX12_byteAt 17 = .ok (.iconst (-1), 1) := by decide +kernel
theorem dX12_byteAt_18 : decode cX12_byteAt 18 = .ok (.ireturn, 1) := by decide +kernel
theorem dX12_isLetter_0 : decode cX12_isLetter 0 = .ok (.aload_n 0, 1) := by decide +kernel
theorem dX12_isLetter_1 : decode cX12_isLetter 1 = .ok (.iload_n 1, 1) := by decide +kernel
theorem dX12_isLetter_2 : decode cX12_isLetter 2 = .ok (.invokevirtual 345, 3) := by decide +kernel
theorem dX12_isLetter_5 : decode cX12_isLetter 5 = .ok (.bipush 97, 2) := by decide +kernel
theorem dX12_isLetter_7 : decode cX12_isLetter 7 = .ok (.if_icmp .lt 17, 3) := by decide +kernel
theorem dX12_isLetter_10 : decode cX12_isLetter 10 = .ok (.aload_n 0, 1) := by decide +kernel
theorem dX12_isLetter_11 : decode cX12_isLetter 11 = .ok (.iload_n 1, 1) := by decide +kernel
theorem dX12_isLetter_12 : decode cX12_isLetter 12 = .ok (.invokevirtual 345, 3) := by decide +kernel
theorem dX12_isLetter_15 : decode cX12_isLetter 15 = .ok (.bipush 122, 2) := by decide +kernel
theorem dX12_isLetter_17 : decode cX12_isLetter 17 = .ok (.if_icmp .gt 7, 3) := by decide +kernel
theorem dX12_isLetter_20 : decode cX12_isLetter 20 = .ok (.iconst 1, 1) := by decide +kernel
theorem dX12_isLetter_21 : decode cX12_isLetter 21 = .ok (.goto 4, 3) := by decide +kernel
theorem dX12_isLetter_24 : decode cX12_isLetter 24 = .ok (.iconst 0, 1) := by decide +kernel
theorem dX12_isLetter_25 : decode cX12_isLetter 25 = .ok (.ireturn, 1) := by decide +kernel
theorem dX12_isDigit_0 : decode cX12_isDigit 0 = .ok (.aload_n 0, 1) := by decide +kernel
theorem dX12_isDigit_1 : decode cX12_isDigit 1 = .ok (.iload_n 1, 1) := by decide +kernel
theorem dX12_isDigit_2 : decode cX12_isDigit 2 = .ok (.invokevirtual 345, 3) := by decide +kernel
theorem dX12_isDigit_5 : decode cX12_isDigit 5 = .ok (.bipush 48, 2) := by decide +kernel
theorem dX12_isDigit_7 : decode cX12_isDigit 7 = .ok (.if_icmp .lt 17, 3) := by decide +kernel
theorem dX12_isDigit_10 : decode cX12_isDigit 10 = .ok (.aload_n 0, 1) := by decide +kernel
theorem dX12_isDigit_11 : decode cX12_isDigit 11 = .ok (.iload_n 1, 1) := by decide +kernel
theorem dX12_isDigit_12 : decode cX12_isDigit 12 = .ok (.invokevirtual 345, 3) := by decide +kernel
theorem dX12_isDigit_15 : decode cX12_isDigit 15 = .ok (.bipush 57, 2) := by decide +kernel
theorem dX12_isDigit_17 : decode cX12_isDigit 17 = .ok (.if_icmp .gt 7, 3) := by decide +kernel
theorem dX12_isDigit_20 : decode cX12_isDigit 20 = .ok (.iconst 1, 1) := by decide +kernel
theorem dX12_isDigit_21 : decode cX12_isDigit 21 = .ok (.goto 4, 3) := by decide +kernel
theorem dX12_isDigit_24 : decode cX12_isDigit 24 = .ok (.iconst 0, 1) := by decide +kernel
theorem dX12_isDigit_25 : decode cX12_isDigit 25 = .ok (.ireturn, 1) := by decide +kernel
theorem dX12_scan_0 : decode cX12_scan 0 = .ok (.aload_n 0, 1) := by decide +kernel
theorem dX12_scan_1 : decode cX12_scan 1 = .ok (.aload_n 0, 1) := by decide +kernel
theorem dX12_scan_2 : decode cX12_scan 2 = .ok (.getfield 348, 3) := by decide +kernel
theorem dX12_scan_5 : decode cX12_scan 5 = .ok (.invokevirtual 345, 3) := by decide +kernel
theorem dX12_scan_8 : decode cX12_scan 8 = .ok (.bipush 32, 2) := by decide +kernel
theorem dX12_scan_10 : decode cX12_scan 10 = .ok (.if_icmp .eq 16, 3) := by decide +kernel
theorem dX12_scan_13 : decode cX12_scan 13 = .ok (.aload_n 0, 1) := by decide +kernel
theorem dX12_scan_14 : decode cX12_scan 14 = .ok (.aload_n 0, 1) := by decide +kernel
theorem dX12_scan_15 : decode cX12_scan 15 = .ok (.getfield 348, 3) := by decide +kernel
theorem dX12_scan_18 : decode cX12_scan 18 = .ok (.invokevirtual 345, 3) := by decide +kernel
theorem dX12_scan_21 : decode cX12_scan 21 = .ok (.bipush 10, 2) := by decide +kernel
theorem dX12_scan_23 : decode cX12_scan 23 = .ok (.if_icmp .ne 16, 3) := by decide +kernel
theorem dX12_scan_26 : decode cX12_scan 26 = .ok (.aload_n 0, 1) := by decide +kernel
theorem dX12_scan_27 : decode cX12_scan 27 = .ok (.dup, 1) := by decide +kernel
theorem dX12_scan_28 : decode cX12_scan 28 = .ok (.getfield 348, 3) := by decide +kernel
theorem dX12_scan_31 : decode cX12_scan 31 = .ok (.iconst 1, 1) := by decide +kernel
theorem dX12_scan_32 : decode cX12_scan 32 = .ok (.iadd, 1) := by decide +kernel
theorem dX12_scan_33 : decode cX12_scan 33 = .ok (.putfield 348, 3) := by decide +kernel
theorem dX12_scan_36 : decode cX12_scan 36 = .ok (.goto (-36), 3) := by decide +kernel
theorem dX12_scan_39 : decode cX12_scan 39 = .ok (.aload_n 0, 1) := by decide +kernel
theorem dX12_scan_40 : decode cX12_scan 40 = .ok (.aload_n 0, 1) := by decide +kernel
theorem dX12_scan_41 : decode cX12_scan 41 = .ok (.getfield 348, 3) := by decide +kernel
theorem dX12_scan_44 : decode cX12_scan 44 = .ok (.putfield 351, 3) := by decide +kernel
theorem dX12_scan_47 : decode cX12_scan 47 = .ok (.aload_n 0, 1) := by decide +kernel
theorem dX12_scan_48 : decode cX12_scan 48 = .ok (.getfield 348, 3) := by decide +kernel
theorem dX12_scan_51 : decode cX12_scan 51 = .ok (.aload_n 0, 1) := by decide +kernel
theorem dX12_scan_52 : decode cX12_scan 52 = .ok (.getfield 342, 3) := by decide +kernel
theorem dX12_scan_55 : decode cX12_scan 55 = .ok (.if_icmp .lt 11, 3) := by decide +kernel
theorem dX12_scan_58 : decode cX12_scan 58 = .ok (.aload_n 0, 1) := by decide +kernel
theorem dX12_scan_59 : decode cX12_scan 59 = .ok (.iconst 0, 1) := by decide +kernel
theorem dX12_scan_60 : decode cX12_scan 60 = .ok (.putfield 354, 3) := by decide +kernel
theorem dX12_scan_63 : decode cX12_scan 63 = .ok (.goto 104, 3) := by decide +kernel
theorem dX12_scan_66 : decode cX12_scan 66 = .ok (.aload_n 0, 1) := by decide +kernel
theorem dX12_scan_67 : decode cX12_scan 67 = .ok (.aload_n 0, 1) := by decide +kernel
theorem dX12_scan_68 : decode cX12_scan 68 = .ok (.getfield 348, 3) := by decide +kernel
theorem dX12_scan_71 : decode cX12_scan 71 = .ok (.invokevirtual 357, 3) := by decide +kernel
theorem dX12_scan_74 : decode cX12_scan 74 = .ok (.ifCond .eq 35, 3) := by decide +kernel
theorem dX12_scan_77 : decode cX12_scan 77 = .ok (.aload_n 0, 1) := by decide +kernel
theorem dX12_scan_78 : decode cX12_scan 78 = .ok (.aload_n 0, 1) := by decide +kernel
theorem dX12_scan_79 : decode cX12_scan 79 = .ok (.getfield 348, 3) := by decide +kernel
theorem dX12_scan_82 : decode cX12_scan 82 = .ok (.invokevirtual 357, 3) := by decide +kernel
theorem dX12_scan_85 : decode cX12_scan 85 = .ok (.ifCond .eq 16, 3) := by decide +kernel
theorem dX12_scan_88 : decode cX12_scan 88 = .ok (.aload_n 0, 1) := by decide +kernel
theorem dX12_scan_89 : decode cX12_scan 89 = .ok (.dup, 1) := by decide +kernel
theorem dX12_scan_90 : decode cX12_scan 90 = .ok (.getfield 348, 3) := by decide +kernel
theorem dX12_scan_93 : decode cX12_scan 93 = .ok (.iconst 1, 1) := by decide +kernel
theorem dX12_scan_94 : decode cX12_scan 94 = .ok (.iadd, 1) := by decide +kernel
theorem dX12_scan_95 : decode cX12_scan 95 = .ok (.putfield 348, 3) := by decide +kernel
theorem dX12_scan_98 : decode cX12_scan 98 = .ok (.goto (-21), 3) := by decide +kernel
theorem dX12_scan_101 : decode cX12_scan 101 = .ok (.aload_n 0, 1) := by decide +kernel
theorem dX12_scan_102 : decode cX12_scan 102 = .ok (.iconst 1, 1) := by decide +kernel
theorem dX12_scan_103 : decode cX12_scan 103 = .ok (.putfield 354, 3) := by decide +kernel
theorem dX12_scan_106 : decode cX12_scan 106 = .ok (.goto 61, 3) := by decide +kernel
theorem dX12_scan_109 : decode cX12_scan 109 = .ok (.aload_n 0, 1) := by decide +kernel
theorem dX12_scan_110 : decode cX12_scan 110 = .ok (.aload_n 0, 1) := by decide +kernel
theorem dX12_scan_111 : decode cX12_scan 111 = .ok (.getfield 348, 3) := by decide +kernel
theorem dX12_scan_114 : decode cX12_scan 114 = .ok (.invokevirtual 360, 3) := by decide +kernel
theorem dX12_scan_117 : decode cX12_scan 117 = .ok (.ifCond .eq 35, 3) := by decide +kernel
theorem dX12_scan_120 : decode cX12_scan 120 = .ok (.aload_n 0, 1) := by decide +kernel
theorem dX12_scan_121 : decode cX12_scan 121 = .ok (.aload_n 0, 1) := by decide +kernel
theorem dX12_scan_122 : decode cX12_scan 122 = .ok (.getfield 348, 3) := by decide +kernel
theorem dX12_scan_125 : decode cX12_scan 125 = .ok (.invokevirtual 360, 3) := by decide +kernel
theorem dX12_scan_128 : decode cX12_scan 128 = .ok (.ifCond .eq 16, 3) := by decide +kernel
theorem dX12_scan_131 : decode cX12_scan 131 = .ok (.aload_n 0, 1) := by decide +kernel
theorem dX12_scan_132 : decode cX12_scan 132 = .ok (.dup, 1) := by decide +kernel
theorem dX12_scan_133 : decode cX12_scan 133 = .ok (.getfield 348, 3) := by decide +kernel
theorem dX12_scan_136 : decode cX12_scan 136 = .ok (.iconst 1, 1) := by decide +kernel
theorem dX12_scan_137 : decode cX12_scan 137 = .ok (.iadd, 1) := by decide +kernel
theorem dX12_scan_138 : decode cX12_scan 138 = .ok (.putfield 348, 3) := by decide +kernel
theorem dX12_scan_141 : decode cX12_scan 141 = .ok (.goto (-21), 3) := by decide +kernel
theorem dX12_scan_144 : decode cX12_scan 144 = .ok (.aload_n 0, 1) := by decide +kernel
theorem dX12_scan_145 : decode cX12_scan 145 = .ok (.iconst 2, 1) := by decide +kernel
theorem dX12_scan_146 : decode cX12_scan 146 = .ok (.putfield 354, 3) := by decide +kernel
theorem dX12_scan_149 : decode cX12_scan 149 = .ok (.goto 18, 3) := by decide +kernel
theorem dX12_scan_152 : decode cX12_scan 152 = .ok (.aload_n 0, 1) := by decide +kernel
theorem dX12_scan_153 : decode cX12_scan 153 = .ok (.dup, 1) := by decide +kernel
theorem dX12_scan_154 : decode cX12_scan 154 = .ok (.getfield 348, 3) := by decide +kernel
theorem dX12_scan_157 : decode cX12_scan 157 = .ok (.iconst 1, 1) := by decide +kernel
theorem dX12_scan_158 : decode cX12_scan 158 = .ok (.iadd, 1) := by decide +kernel
theorem dX12_scan_159 : decode cX12_scan 159 = .ok (.putfield 348, 3) := by decide +kernel
theorem dX12_scan_162 : decode cX12_scan 162 = .ok (.aload_n 0, 1) := by decide +kernel
theorem dX12_scan_163 : decode cX12_scan 163 = .ok (.iconst 3, 1) := by decide +kernel
theorem dX12_scan_164 : decode cX12_scan 164 = .ok (.putfield 354, 3) := by decide +kernel
theorem dX12_scan_167 : decode cX12_scan 167 = .ok (.return_, 1) := by decide +kernel
theorem dX12_startText_0 : decode cX12_startText 0 = .ok (.aload_n 0, 1) := by decide +kernel
theorem dX12_startText_1 : decode cX12_startText 1 = .ok (.iload_n 1, 1) := by decide +kernel
theorem dX12_startText_2 : decode cX12_startText 2 = .ok (.putfield 342, 3) := by decide +kernel
theorem dX12_startText_5 : decode cX12_startText 5 = .ok (.aload_n 0, 1) := by decide +kernel
theorem dX12_startText_6 : decode cX12_startText 6 = .ok (.iconst 0, 1) := by decide +kernel
theorem dX12_startText_7 : decode cX12_startText 7 = .ok (.putfield 348, 3) := by decide +kernel
theorem dX12_startText_10 : decode cX12_startText 10 = .ok (.aload_n 0, 1) := by decide +kernel
theorem dX12_startText_11 : decode cX12_startText 11 = .ok (.iconst 0, 1) := by decide +kernel
theorem dX12_startText_12 : decode cX12_startText 12 = .ok (.putfield 363, 3) := by decide +kernel
theorem dX12_startText_15 : decode cX12_startText 15 = .ok (.aload_n 0, 1) := by decide +kernel
theorem dX12_startText_16 : decode cX12_startText 16 = .ok (.iconst 0, 1) := by decide +kernel
theorem dX12_startText_17 : decode cX12_startText 17 = .ok (.putfield 366, 3) := by decide +kernel
theorem dX12_startText_20 : decode cX12_startText 20 = .ok (.aload_n 0, 1) := by decide +kernel
theorem dX12_startText_21 : decode cX12_startText 21 = .ok (.invokevirtual 369, 3) := by decide +kernel
theorem dX12_startText_24 : decode cX12_startText 24 = .ok (.return_, 1) := by decide +kernel
theorem dX12_finish_0 : decode cX12_finish 0 = .ok (.aload_n 0, 1) := by decide +kernel
theorem dX12_finish_1 : decode cX12_finish 1 = .ok (.iconst 0, 1) := by decide +kernel
theorem dX12_finish_2 : decode cX12_finish 2 = .ok (.putfield 339, 3) := by decide +kernel
theorem dX12_finish_5 : decode cX12_finish 5 = .ok (.aload_n 0, 1) := by decide +kernel
theorem dX12_finish_6 : decode cX12_finish 6 = .ok (.aload_n 0, 1) := by decide +kernel
theorem dX12_finish_7 : decode cX12_finish 7 = .ok (.getfield 363, 3) := by decide +kernel
theorem dX12_finish_10 : decode cX12_finish 10 = .ok (.ifCond .ne 7, 3) := by decide +kernel
theorem dX12_finish_13 : decode cX12_finish 13 = .ok (.iconst (-1), 1) := by decide +kernel
theorem dX12_finish_14 : decode cX12_finish 14 = .ok (.goto 7, 3) := by decide +kernel
theorem dX12_finish_17 : decode cX12_finish 17 = .ok (.aload_n 0, 1) := by decide +kernel
theorem dX12_finish_18 : decode cX12_finish 18 = .ok (.getfield 372, 3) := by decide +kernel
theorem dX12_finish_21 : decode cX12_finish 21 = .ok (.putfield 50, 3) := by decide +kernel
theorem dX12_finish_24 : decode cX12_finish 24 = .ok (.aload_n 0, 1) := by decide +kernel
theorem dX12_finish_25 : decode cX12_finish 25 = .ok (.getfield 363, 3) := by decide +kernel
theorem dX12_finish_28 : decode cX12_finish 28 = .ok (.ireturn, 1) := by decide +kernel
theorem dX12_flaw_0 : decode cX12_flaw 0 = .ok (.aload_n 0, 1) := by decide +kernel
theorem dX12_flaw_1 : decode cX12_flaw 1 = .ok (.getfield 363, 3) := by decide +kernel
theorem dX12_flaw_4 : decode cX12_flaw 4 = .ok (.ifCond .ne 16, 3) := by decide +kernel
theorem dX12_flaw_7 : decode cX12_flaw 7 = .ok (.aload_n 0, 1) := by decide +kernel
theorem dX12_flaw_8 : decode cX12_flaw 8 = .ok (.iload_n 1, 1) := by decide +kernel
theorem dX12_flaw_9 : decode cX12_flaw 9 = .ok (.putfield 363, 3) := by decide +kernel
theorem dX12_flaw_12 : decode cX12_flaw 12 = .ok (.aload_n 0, 1) := by decide +kernel
theorem dX12_flaw_13 : decode cX12_flaw 13 = .ok (.aload_n 0, 1) := by decide +kernel
theorem dX12_flaw_14 : decode cX12_flaw 14 = .ok (.getfield 351, 3) := by decide +kernel
theorem dX12_flaw_17 : decode cX12_flaw 17 = .ok (.putfield 372, 3) := by decide +kernel
theorem dX12_flaw_20 : decode cX12_flaw 20 = .ok (.return_, 1) := by decide +kernel
theorem dX12_check_0 : decode cX12_check 0 = .ok (.iload_n 1, 1) := by decide +kernel
theorem dX12_check_1 : decode cX12_check 1 = .ok (.ifCond .ne 8, 3) := by decide +kernel
theorem dX12_check_4 : decode cX12_check 4 = .ok (.aload_n 0, 1) := by decide +kernel
theorem dX12_check_5 : decode cX12_check 5 = .ok (.iload_n 2, 1) := by decide +kernel
theorem dX12_check_6 : decode cX12_check 6 = .ok (.invokevirtual 375, 3) := by decide +kernel
theorem dX12_check_9 : decode cX12_check 9 = .ok (.return_, 1) := by decide +kernel
theorem dX12_advance_0 : decode cX12_advance 0 = .ok (.aload_n 0, 1) := by decide +kernel
theorem dX12_advance_1 : decode cX12_advance 1 = .ok (.getfield 363, 3) := by decide +kernel
theorem dX12_advance_4 : decode cX12_advance 4 = .ok (.ifCond .ne 7, 3) := by decide +kernel
theorem dX12_advance_7 : decode cX12_advance 7 = .ok (.aload_n 0, 1) := by decide +kernel
theorem dX12_advance_8 : decode cX12_advance 8 = .ok (.invokevirtual 369, 3) := by decide +kernel
theorem dX12_advance_11 : decode cX12_advance 11 = .ok (.return_, 1) := by decide +kernel
theorem dX12_isSymbol_0 : decode cX12_isSymbol 0 = .ok (.aload_n 0, 1) := by decide +kernel
theorem dX12_isSymbol_1 : decode cX12_isSymbol 1 = .ok (.getfield 363, 3) := by decide +kernel
theorem dX12_isSymbol_4 : decode cX12_isSymbol 4 = .ok (.ifCond .ne 28, 3) := by decide +kernel
theorem dX12_isSymbol_7 : decode cX12_isSymbol 7 = .ok (.aload_n 0, 1) := by decide +kernel
theorem dX12_isSymbol_8 : decode cX12_isSymbol 8 = .ok (.getfield 354, 3) := by decide +kernel
theorem dX12_isSymbol_11 : decode cX12_isSymbol 11 = .ok (.iconst 3, 1) := by decide +kernel
theorem dX12_isSymbol_12 : decode cX12_isSymbol 12 = .ok (.if_icmp .ne 20, 3) := by decide +kernel
theorem dX12_isSymbol_15 : decode cX12_isSymbol 15 = .ok (.aload_n 0, 1) := by decide +kernel
theorem dX12_isSymbol_16 : decode cX12_isSymbol 16 = .ok (.getfield 47, 3) := by decide +kernel
theorem dX12_isSymbol_19 : decode cX12_isSymbol 19 = .ok (.aload_n 0, 1) := by decide +kernel
theorem dX12_isSymbol_20 : decode cX12_isSymbol 20 = .ok (.getfield 351, 3) := by decide +kernel
theorem dX12_isSymbol_23 : decode cX12_isSymbol 23 = .ok (.iaload, 1) := by decide +kernel
theorem dX12_isSymbol_24 : decode cX12_isSymbol 24 = .ok (.iload_n 1, 1) := by decide +kernel
theorem dX12_isSymbol_25 : decode cX12_isSymbol 25 = .ok (.if_icmp .ne 7, 3) := by decide +kernel
theorem dX12_isSymbol_28 : decode cX12_isSymbol 28 = .ok (.iconst 1, 1) := by decide +kernel
theorem dX12_isSymbol_29 : decode cX12_isSymbol 29 = .ok (.goto 4, 3) := by decide +kernel
theorem dX12_isSymbol_32 : decode cX12_isSymbol 32 = .ok (.iconst 0, 1) := by decide +kernel
theorem dX12_isSymbol_33 : decode cX12_isSymbol 33 = .ok (.ireturn, 1) := by decide +kernel
theorem dX12_isWord_0 : decode cX12_isWord 0 = .ok (.aload_n 0, 1) := by decide +kernel
theorem dX12_isWord_1 : decode cX12_isWord 1 = .ok (.getfield 363, 3) := by decide +kernel
theorem dX12_isWord_4 : decode cX12_isWord 4 = .ok (.ifCond .ne 31, 3) := by decide +kernel
theorem dX12_isWord_7 : decode cX12_isWord 7 = .ok (.aload_n 0, 1) := by decide +kernel
theorem dX12_isWord_8 : decode cX12_isWord 8 = .ok (.getfield 354, 3) := by decide +kernel
theorem dX12_isWord_11 : decode cX12_isWord 11 = .ok (.iconst 1, 1) := by decide +kernel
theorem dX12_isWord_12 : decode cX12_isWord 12 = .ok (.if_icmp .ne 23, 3) := by decide +kernel
theorem dX12_isWord_15 : decode cX12_isWord 15 = .ok (.aload_n 1, 1) := by decide +kernel
theorem dX12_isWord_16 : decode cX12_isWord 16 = .ok (.invokevirtual 321, 3) := by decide +kernel
theorem dX12_isWord_19 : decode cX12_isWord 19 = .ok (.aload_n 0, 1) := by decide +kernel
theorem dX12_isWord_20 : decode cX12_isWord 20 = .ok (.getfield 348, 3) := by decide +kernel
theorem dX12_isWord_23 : decode cX12_isWord 23 = .ok (.aload_n 0, 1) := by decide +kernel
theorem dX12_isWord_24 : decode cX12_isWord 24 = .ok (.getfield 351, 3) := by decide +kernel
theorem dX12_isWord_27 : decode cX12_isWord 27 = .ok (.isub, 1) := by decide +kernel
theorem dX12_isWord_28 : decode cX12_isWord 28 = .ok (.if_icmp .ne 7, 3) := by decide +kernel
theorem dX12_isWord_31 : decode cX12_isWord 31 = .ok (.iconst 1, 1) := by decide +kernel
theorem dX12_isWord_32 : decode cX12_isWord 32 = .ok (.goto 4, 3) := by decide +kernel
theorem dX12_isWord_35 : decode cX12_isWord 35 = .ok (.iconst 0, 1) := by decide +kernel
theorem dX12_isWord_36 : decode cX12_isWord 36 = .ok (.istore_n 2, 1) := by decide +kernel
theorem dX12_isWord_37 : decode cX12_isWord 37 = .ok (.iconst 0, 1) := by decide +kernel
theorem dX12_isWord_38 : decode cX12_isWord 38 = .ok (.istore_n 3, 1) := by decide +kernel
theorem dX12_isWord_39 : decode cX12_isWord 39 = .ok (.iload_n 2, 1) := by decide +kernel
theorem dX12_isWord_40 : decode cX12_isWord 40 = .ok (.ifCond .eq 42, 3) := by decide +kernel
theorem dX12_isWord_43 : decode cX12_isWord 43 = .ok (.iload_n 3, 1) := by decide +kernel
theorem dX12_isWord_44 : decode cX12_isWord 44 = .ok (.aload_n 1, 1) := by decide +kernel
theorem dX12_isWord_45 : decode cX12_isWord 45 = .ok (.invokevirtual 321, 3) := by decide +kernel
theorem dX12_isWord_48 : decode cX12_isWord 48 = .ok (.if_icmp .ge 34, 3) := by decide +kernel
theorem dX12_isWord_51 : decode cX12_isWord 51 = .ok (.aload_n 1, 1) := by decide +kernel
theorem dX12_isWord_52 : decode cX12_isWord 52 = .ok (.iload_n 3, 1) := by decide +kernel
theorem dX12_isWord_53 : decode cX12_isWord 53 = .ok (.invokevirtual 324, 3) := by decide +kernel
theorem dX12_isWord_56 : decode cX12_isWord 56 = .ok (.aload_n 0, 1) := by decide +kernel
theorem dX12_isWord_57 : decode cX12_isWord 57 = .ok (.getfield 47, 3) := by decide +kernel
theorem dX12_isWord_60 : decode cX12_isWord 60 = .ok (.aload_n 0, 1) := by decide +kernel
theorem dX12_isWord_61 : decode cX12_isWord 61 = .ok (.getfield 351, 3) := by decide +kernel
theorem dX12_isWord_64 : decode cX12_isWord 64 = .ok (.iload_n 3, 1) := by decide +kernel
theorem dX12_isWord_65 : decode cX12_isWord 65 = .ok (.iadd, 1) := by decide +kernel
theorem dX12_isWord_66 : decode cX12_isWord 66 = .ok (.iaload, 1) := by decide +kernel
theorem dX12_isWord_67 : decode cX12_isWord 67 = .ok (.if_icmp .ne 7, 3) := by decide +kernel
theorem dX12_isWord_70 : decode cX12_isWord 70 = .ok (.iconst 1, 1) := by decide +kernel
theorem dX12_isWord_71 : decode cX12_isWord 71 = .ok (.goto 4, 3) := by decide +kernel
theorem dX12_isWord_74 : decode cX12_isWord 74 = .ok (.iconst 0, 1) := by decide +kernel
theorem dX12_isWord_75 : decode cX12_isWord 75 = .ok (.istore_n 2, 1) := by decide +kernel
theorem dX12_isWord_76 : decode cX12_isWord 76 = .ok (.iinc 3 1, 3) := by decide +kernel
theorem dX12_isWord_79 : decode cX12_isWord 79 = .ok (.goto (-40), 3) := by decide +kernel
theorem dX12_isWord_82 : decode cX12_isWord 82 = .ok (.iload_n 2, 1) := by decide +kernel
theorem dX12_isWord_83 : decode cX12_isWord 83 = .ok (.ireturn, 1) := by decide +kernel
theorem dX12_accept_0 : decode cX12_accept 0 = .ok (.aload_n 0, 1) := by decide +kernel
theorem dX12_accept_1 : decode cX12_accept 1 = .ok (.aload_n 1, 1) := by decide +kernel
theorem dX12_accept_2 : decode cX12_accept 2 = .ok (.invokevirtual 378, 3) := by decide +kernel
theorem dX12_accept_5 : decode cX12_accept 5 = .ok (.istore_n 2, 1) := by decide +kernel
theorem dX12_accept_6 : decode cX12_accept 6 = .ok (.iload_n 2, 1) := by decide +kernel
theorem dX12_accept_7 : decode cX12_accept 7 = .ok (.ifCond .eq 7, 3) := by decide +kernel
theorem dX12_accept_10 : decode cX12_accept 10 = .ok (.aload_n 0, 1) := by decide +kernel
theorem dX12_accept_11 : decode cX12_accept 11 = .ok (.invokevirtual 369, 3) := by decide +kernel
theorem dX12_accept_14 : decode cX12_accept 14 = .ok (.iload_n 2, 1) := by decide +kernel
theorem dX12_accept_15 : decode cX12_accept 15 = .ok (.ireturn, 1) := by decide +kernel
theorem dX12_expectWord_0 : decode cX12_expectWord 0 = .ok (.aload_n 0, 1) := by decide +kernel
theorem dX12_expectWord_1 : decode cX12_expectWord 1 = .ok (.aload_n 0, 1) := by decide +kernel
theorem dX12_expectWord_2 : decode cX12_expectWord 2 = .ok (.aload_n 1, 1) := by decide +kernel
theorem dX12_expectWord_3 : decode cX12_expectWord 3 = .ok (.invokevirtual 378, 3) := by decide +kernel
theorem dX12_expectWord_6 : decode cX12_expectWord 6 = .ok (.iconst 1, 1) := by decide +kernel
theorem dX12_expectWord_7 : decode cX12_expectWord 7 = .ok (.invokevirtual 382, 3) := by decide +kernel
theorem dX12_expectWord_10 : decode cX12_expectWord 10 = .ok (.aload_n 0, 1) := by decide +kernel
theorem dX12_expectWord_11 : decode cX12_expectWord 11 = .ok (.invokevirtual 386, 3) := by decide +kernel
theorem dX12_expectWord_14 : decode cX12_expectWord 14 = .ok (.return_, 1) := by decide +kernel
theorem dX12_expect_0 : decode cX12_expect 0 = .ok (.aload_n 0, 1) := by decide +kernel
theorem dX12_expect_1 : decode cX12_expect 1 = .ok (.aload_n 0, 1) := by decide +kernel
theorem dX12_expect_2 : decode cX12_expect 2 = .ok (.iload_n 1, 1) := by decide +kernel
theorem dX12_expect_3 : decode cX12_expect 3 = .ok (.invokevirtual 389, 3) := by decide +kernel
theorem dX12_expect_6 : decode cX12_expect 6 = .ok (.iconst 1, 1) := by decide +kernel
theorem dX12_expect_7 : decode cX12_expect 7 = .ok (.invokevirtual 382, 3) := by decide +kernel
theorem dX12_expect_10 : decode cX12_expect 10 = .ok (.aload_n 0, 1) := by decide +kernel
theorem dX12_expect_11 : decode cX12_expect 11 = .ok (.invokevirtual 386, 3) := by decide +kernel
theorem dX12_expect_14 : decode cX12_expect 14 = .ok (.return_, 1) := by decide +kernel
theorem dX12_value_0 : decode cX12_value 0 = .ok (.iconst 0, 1) := by decide +kernel
theorem dX12_value_1 : decode cX12_value 1 = .ok (.istore_n 1, 1) := by decide +kernel
theorem dX12_value_2 : decode cX12_value 2 = .ok (.aload_n 0, 1) := by decide +kernel
theorem dX12_value_3 : decode cX12_value 3 = .ok (.getfield 351, 3) := by decide +kernel
theorem dX12_value_6 : decode cX12_value 6 = .ok (.istore_n 2, 1) := by decide +kernel
theorem dX12_value_7 : decode cX12_value 7 = .ok (.iload_n 2, 1) := by decide +kernel
theorem dX12_value_8 : decode cX12_value 8 = .ok (.aload_n 0, 1) := by decide +kernel
theorem dX12_value_9 : decode cX12_value 9 = .ok (.getfield 348, 3) := by decide +kernel
theorem dX12_value_12 : decode cX12_value 12 = .ok (.if_icmp .ge 43, 3) := by decide +kernel
theorem dX12_value_15 : decode cX12_value 15 = .ok (.aload_n 0, 1) := by decide +kernel
theorem dX12_value_16 : decode cX12_value 16 = .ok (.getfield 354, 3) := by decide +kernel
theorem dX12_value_19 : decode cX12_value 19 = .ok (.iconst 2, 1) := by decide +kernel
theorem dX12_value_20 : decode cX12_value 20 = .ok (.if_icmp .ne 35, 3) := by decide +kernel
theorem dX12_value_23 : decode cX12_value 23 = .ok (.ldc2_w 392, 3) := by decide +kernel
theorem dX12_value_26 : decode cX12_value 26 = .ok (.ldc2_w 394, 3) := by decide +kernel
theorem dX12_value_29 : decode cX12_value 29 = .ok (.iload_n 1, 1) := by decide +kernel
theorem dX12_value_30 : decode cX12_value 30 = .ok (.i2l, 1) := by decide +kernel
theorem dX12_value_31 : decode cX12_value 31 = .ok (.lmul, 1) := by decide +kernel
theorem dX12_value_32 : decode cX12_value 32 = .ok (.aload_n 0, 1) := by decide +kernel
theorem dX12_value_33 : decode cX12_value 33 = .ok (.getfield 47, 3) := by decide +kernel
theorem dX12_value_36 : decode cX12_value 36 = .ok (.iload_n 2, 1) := by decide +kernel
theorem dX12_value_37 : decode cX12_value 37 = .ok (.iaload, 1) := by decide +kernel
theorem dX12_value_38 : decode cX12_value 38 = .ok (.i2l, 1) := by decide +kernel
theorem dX12_value_39 : decode cX12_value 39 = .ok (.ladd, 1) := by decide +kernel
theorem dX12_value_40 : decode cX12_value 40 = .ok (.ldc2_w 396, 3) := by decide +kernel
theorem dX12_value_43 : decode cX12_value 43 = .ok (.lsub, 1) := by decide +kernel
theorem dX12_value_44 : decode cX12_value 44 = .ok (.invokestatic 398, 3) := by decide +kernel
theorem dX12_value_47 : decode cX12_value 47 = .ok (.l2i, 1) := by decide +kernel
theorem dX12_value_48 : decode cX12_value 48 = .ok (.istore_n 1, 1) := by decide +kernel
theorem dX12_value_49 : decode cX12_value 49 = .ok (.iinc 2 1, 3) := by decide +kernel
theorem dX12_value_52 : decode cX12_value 52 = .ok (.goto (-45), 3) := by decide +kernel
theorem dX12_value_55 : decode cX12_value 55 = .ok (.iload_n 1, 1) := by decide +kernel
theorem dX12_value_56 : decode cX12_value 56 = .ok (.ireturn, 1) := by decide +kernel
theorem dX12_readNumber_0 : decode cX12_readNumber 0 = .ok (.aload_n 0, 1) := by decide +kernel
theorem dX12_readNumber_1 : decode cX12_readNumber 1 = .ok (.aload_n 0, 1) := by decide +kernel
theorem dX12_readNumber_2 : decode cX12_readNumber 2 = .ok (.getfield 363, 3) := by decide +kernel
theorem dX12_readNumber_5 : decode cX12_readNumber 5 = .ok (.ifCond .ne 11, 3) := by decide +kernel
theorem dX12_readNumber_8 : decode cX12_readNumber 8 = .ok (.aload_n 0, 1) := by decide +kernel
theorem dX12_readNumber_9 : decode cX12_readNumber 9 = .ok (.getfield 354, 3) := by decide +kernel
theorem dX12_readNumber_12 : decode cX12_readNumber 12 = .ok (.iconst 2, 1) := by decide +kernel
theorem dX12_readNumber_13 : decode cX12_readNumber 13 = .ok (.if_icmp .ne 7, 3) := by decide +kernel
theorem dX12_readNumber_16 : decode cX12_readNumber 16 = .ok (.iconst 1, 1) := by decide +kernel
theorem dX12_readNumber_17 : decode cX12_readNumber 17 = .ok (.goto 4, 3) := by decide +kernel
theorem dX12_readNumber_20 : decode cX12_readNumber 20 = .ok (.iconst 0, 1) := by decide +kernel
theorem dX12_readNumber_21 : decode cX12_readNumber 21 = .ok (.iconst 1, 1) := by decide +kernel
theorem dX12_readNumber_22 : decode cX12_readNumber 22 = .ok (.invokevirtual 382, 3) := by decide +kernel
theorem dX12_readNumber_25 : decode cX12_readNumber 25 = .ok (.aload_n 0, 1) := by decide +kernel
theorem dX12_readNumber_26 : decode cX12_readNumber 26 = .ok (.invokevirtual 401, 3) := by decide +kernel
theorem dX12_readNumber_29 : decode cX12_readNumber 29 = .ok (.istore_n 3, 1) := by decide +kernel
theorem dX12_readNumber_30 : decode cX12_readNumber 30 = .ok (.aload_n 0, 1) := by decide +kernel
theorem dX12_readNumber_31 : decode cX12_readNumber 31 = .ok (.aload_n 0, 1) := by decide +kernel
theorem dX12_readNumber_32 : decode cX12_readNumber 32 = .ok (.getfield 363, 3) := by decide +kernel
theorem dX12_readNumber_35 : decode cX12_readNumber 35 = .ok (.ifCond .ne 12, 3) := by decide +kernel
theorem dX12_readNumber_38 : decode cX12_readNumber 38 = .ok (.iload_n 3, 1) := by decide +kernel
theorem dX12_readNumber_39 : decode cX12_readNumber 39 = .ok (.iload_n 1, 1) := by decide +kernel
theorem dX12_readNumber_40 : decode cX12_readNumber 40 = .ok (.iload_n 2, 1) := by decide +kernel
theorem dX12_readNumber_41 : decode cX12_readNumber 41 = .ok (.invokestatic 109, 3) := by decide +kernel
theorem dX12_readNumber_44 : decode cX12_readNumber 44 = .ok (.ifCond .eq 7, 3) := by decide +kernel
theorem dX12_readNumber_47 : decode cX12_readNumber 47 = .ok (.iconst 1, 1) := by decide +kernel
theorem dX12_readNumber_48 : decode cX12_readNumber 48 = .ok (.goto 4, 3) := by decide +kernel
theorem dX12_readNumber_51 : decode cX12_readNumber 51 = .ok (.iconst 0, 1) := by decide +kernel
theorem dX12_readNumber_52 : decode cX12_readNumber 52 = .ok (.iconst 2, 1) := by decide +kernel
theorem dX12_readNumber_53 : decode cX12_readNumber 53 = .ok (.invokevirtual 382, 3) := by decide +kernel
theorem dX12_readNumber_56 : decode cX12_readNumber 56 = .ok (.aload_n 0, 1) := by decide +kernel
theorem dX12_readNumber_57 : decode cX12_readNumber 57 = .ok (.invokevirtual 386, 3) := by decide +kernel
theorem dX12_readNumber_60 : decode cX12_readNumber 60 = .ok (.aload_n 0, 1) := by decide +kernel
theorem dX12_readNumber_61 : decode cX12_readNumber 61 = .ok (.getfield 363, 3) := by decide +kernel
theorem dX12_readNumber_64 : decode cX12_readNumber 64 = .ok (.ifCond .ne 7, 3) := by decide +kernel
theorem dX12_readNumber_67 : decode cX12_readNumber 67 = .ok (.iload_n 3, 1) := by decide +kernel
theorem dX12_readNumber_68 : decode cX12_readNumber 68 = .ok (.goto 4, 3) := by decide +kernel
theorem dX12_readNumber_71 : decode cX12_readNumber 71 = .ok (.iload_n 1, 1) := by decide +kernel
theorem dX12_readNumber_72 : decode cX12_readNumber 72 = .ok (.ireturn, 1) := by decide +kernel
theorem dX12_readHouse_0 : decode cX12_readHouse 0 = .ok (.aload_n 0, 1) := by decide +kernel
theorem dX12_readHouse_1 : decode cX12_readHouse 1 = .ok (.aload_n 0, 1) := by decide +kernel
theorem dX12_readHouse_2 : decode cX12_readHouse 2 = .ok (.getfield 13, 3) := by decide +kernel
theorem dX12_readHouse_5 : decode cX12_readHouse 5 = .ok (.iconst 0, 1) := by decide +kernel
theorem dX12_readHouse_6 : decode cX12_readHouse 6 = .ok (.iaload, 1) := by decide +kernel
theorem dX12_readHouse_7 : decode cX12_readHouse 7 = .ok (.iconst 4, 1) := by decide +kernel
theorem dX12_readHouse_8 : decode cX12_readHouse 8 = .ok (.if_icmp .ge 7, 3) := by decide +kernel
theorem dX12_readHouse_11 : decode cX12_readHouse 11 = .ok (.iconst 1, 1) := by decide +kernel
theorem dX12_readHouse_12 : decode cX12_readHouse 12 = .ok (.goto 4, 3) := by decide +kernel
theorem dX12_readHouse_15 : decode cX12_readHouse 15 = .ok (.iconst 0, 1) := by decide +kernel
theorem dX12_readHouse_16 : decode cX12_readHouse 16 = .ok (.iconst 3, 1) := by decide +kernel
theorem dX12_readHouse_17 : decode cX12_readHouse 17 = .ok (.invokevirtual 382, 3) := by decide +kernel
theorem dX12_readHouse_20 : decode cX12_readHouse 20 = .ok (.aload_n 0, 1) := by decide +kernel
theorem dX12_readHouse_21 : decode cX12_readHouse 21 = .ok (.invokevirtual 386, 3) := by decide +kernel
theorem dX12_readHouse_24 : decode cX12_readHouse 24 = .ok (.aload_n 0, 1) := by decide +kernel
theorem dX12_readHouse_25 : decode cX12_readHouse 25 = .ok (.iconst 1, 1) := by decide +kernel
theorem dX12_readHouse_26 : decode cX12_readHouse 26 = .ok (.bipush 99, 2) := by decide +kernel
theorem dX12_readHouse_28 : decode cX12_readHouse 28 = .ok (.invokevirtual 404, 3) := by decide +kernel
theorem dX12_readHouse_31 : decode cX12_readHouse 31 = .ok (.istore_n 1, 1) := by decide +kernel
theorem dX12_readHouse_32 : decode cX12_readHouse 32 = .ok (.aload_n 0, 1) := by decide +kernel
theorem dX12_readHouse_33 : decode cX12_readHouse 33 = .ok (.iconst 1, 1) := by decide +kernel
theorem dX12_readHouse_34 : decode cX12_readHouse 34 = .ok (.bipush 100, 2) := by decide +kernel
theorem dX12_readHouse_36 : decode cX12_readHouse 36 = .ok (.invokevirtual 404, 3) := by decide +kernel
theorem dX12_readHouse_39 : decode cX12_readHouse 39 = .ok (.istore_n 2, 1) := by decide +kernel
theorem dX12_readHouse_40 : decode cX12_readHouse 40 = .ok (.aload_n 0, 1) := by decide +kernel
theorem dX12_readHouse_41 : decode cX12_readHouse 41 = .ok (.getfield 363, 3) := by decide +kernel
theorem dX12_readHouse_44 : decode cX12_readHouse 44 = .ok (.ifCond .ne 45, 3) := by decide +kernel
theorem dX12_readHouse_47 : decode cX12_readHouse 47 = .ok (.aload_n 0, 1) := by decide +kernel
theorem dX12_readHouse_48 : decode cX12_readHouse 48 = .ok (.getfield 13, 3) := by decide +kernel
theorem dX12_readHouse_51 : decode cX12_readHouse 51 = .ok (.aload_n 0, 1) := by decide +kernel
theorem dX12_readHouse_52 : decode cX12_readHouse 52 = .ok (.getfield 13, 3) := by decide +kernel
theorem dX12_readHouse_55 : decode cX12_readHouse 55 = .ok (.iconst 0, 1) := by decide +kernel
theorem dX12_readHouse_56 : decode cX12_readHouse 56 = .ok (.iaload, 1) := by decide +kernel
theorem dX12_readHouse_57 : decode cX12_readHouse 57 = .ok (.iconst 0, 1) := by decide +kernel
theorem dX12_readHouse_58 : decode cX12_readHouse 58 = .ok (.invokestatic 92, 3) := by decide +kernel
theorem dX12_readHouse_61 : decode cX12_readHouse 61 = .ok (.iload_n 1, 1) := by decide +kernel
theorem dX12_readHouse_62 : decode cX12_readHouse 62 = .ok (.iastore, 1) := by decide +kernel
theorem dX12_readHouse_63 : decode cX12_readHouse 63 = .ok (.aload_n 0, 1) := by decide +kernel
theorem dX12_readHouse_64 : decode cX12_readHouse 64 = .ok (.getfield 13, 3) := by decide +kernel
theorem dX12_readHouse_67 : decode cX12_readHouse 67 = .ok (.aload_n 0, 1) := by decide +kernel
theorem dX12_readHouse_68 : decode cX12_readHouse 68 = .ok (.getfield 13, 3) := by decide +kernel
theorem dX12_readHouse_71 : decode cX12_readHouse 71 = .ok (.iconst 0, 1) := by decide +kernel
theorem dX12_readHouse_72 : decode cX12_readHouse 72 = .ok (.iaload, 1) := by decide +kernel
theorem dX12_readHouse_73 : decode cX12_readHouse 73 = .ok (.iconst 1, 1) := by decide +kernel
theorem dX12_readHouse_74 : decode cX12_readHouse 74 = .ok (.invokestatic 92, 3) := by decide +kernel
theorem dX12_readHouse_77 : decode cX12_readHouse 77 = .ok (.iload_n 2, 1) := by decide +kernel
theorem dX12_readHouse_78 : decode cX12_readHouse 78 = .ok (.iastore, 1) := by decide +kernel
theorem dX12_readHouse_79 : decode cX12_readHouse 79 = .ok (.aload_n 0, 1) := by decide +kernel
theorem dX12_readHouse_80 : decode cX12_readHouse 80 = .ok (.getfield 13, 3) := by decide +kernel
theorem dX12_readHouse_83 : decode cX12_readHouse 83 = .ok (.iconst 0, 1) := by decide +kernel
theorem dX12_readHouse_84 : decode cX12_readHouse 84 = .ok (.dup2, 1) := by decide +kernel
theorem dX12_readHouse_85 : decode cX12_readHouse 85 = .ok (.iaload, 1) := by decide +kernel
theorem dX12_readHouse_86 : decode cX12_readHouse 86 = .ok (.iconst 1, 1) := by decide +kernel
theorem dX12_readHouse_87 : decode cX12_readHouse 87 = .ok (.iadd, 1) := by decide +kernel
theorem dX12_readHouse_88 : decode cX12_readHouse 88 = .ok (.iastore, 1) := by decide +kernel
theorem dX12_readHouse_89 : decode cX12_readHouse 89 = .ok (.return_, 1) := by decide +kernel
theorem dX12_screensRead_0 : decode cX12_screensRead 0 = .ok (.iconst 0, 1) := by decide +kernel
theorem dX12_screensRead_1 : decode cX12_screensRead 1 = .ok (.istore_n 2, 1) := by decide +kernel
theorem dX12_screensRead_2 : decode cX12_screensRead 2 = .ok (.iconst 0, 1) := by decide +kernel
theorem dX12_screensRead_3 : decode cX12_screensRead 3 = .ok (.istore_n 3, 1) := by decide +kernel
theorem dX12_screensRead_4 : decode cX12_screensRead 4 = .ok (.iload_n 3, 1) := by decide +kernel
theorem dX12_screensRead_5 : decode cX12_screensRead 5 = .ok (.aload_n 0, 1) := by decide +kernel
theorem dX12_screensRead_6 : decode cX12_screensRead 6 = .ok (.getfield 13, 3) := by decide +kernel
theorem dX12_screensRead_9 : decode cX12_screensRead 9 = .ok (.iconst 1, 1) := by decide +kernel
theorem dX12_screensRead_10 : decode cX12_screensRead 10 = .ok (.iaload, 1) := by decide +kernel
theorem dX12_screensRead_11 : decode cX12_screensRead 11 = .ok (.if_icmp .ge 31, 3) := by decide +kernel
theorem dX12_screensRead_14 : decode cX12_screensRead 14 = .ok (.iload_n 2, 1) := by decide +kernel
theorem dX12_screensRead_15 : decode cX12_screensRead 15 = .ok (.aload_n 0, 1) := by decide +kernel
theorem dX12_screensRead_16 : decode cX12_screensRead 16 = .ok (.getfield 13, 3) := by decide +kernel
theorem dX12_screensRead_19 : decode cX12_screensRead 19 = .ok (.iload_n 3, 1) := by decide +kernel
theorem dX12_screensRead_20 : decode cX12_screensRead 20 = .ok (.iconst 0, 1) := by decide +kernel
theorem dX12_screensRead_21 : decode cX12_screensRead 21 = .ok (.invokestatic 96, 3) := by decide +kernel
theorem dX12_screensRead_24 : decode cX12_screensRead 24 = .ok (.iaload, 1) := by decide +kernel
theorem dX12_screensRead_25 : decode cX12_screensRead 25 = .ok (.iload_n 1, 1) := by decide +kernel
theorem dX12_screensRead_26 : decode cX12_screensRead 26 = .ok (.if_icmp .ne 7, 3) := by decide +kernel
theorem dX12_screensRead_29 : decode cX12_screensRead 29 = .ok (.iconst 1, 1) := by decide +kernel
theorem dX12_screensRead_30 : decode cX12_screensRead 30 = .ok (.goto 4, 3) := by decide +kernel
theorem dX12_screensRead_33 : decode cX12_screensRead 33 = .ok (.iconst 0, 1) := by decide +kernel
theorem dX12_screensRead_34 : decode cX12_screensRead 34 = .ok (.iadd, 1) := by decide +kernel
theorem dX12_screensRead_35 : decode cX12_screensRead 35 = .ok (.istore_n 2, 1) := by decide +kernel
theorem dX12_screensRead_36 : decode cX12_screensRead 36 = .ok (.iinc 3 1, 3) := by decide +kernel
theorem dX12_screensRead_39 : decode cX12_screensRead 39 = .ok (.goto (-35), 3) := by decide +kernel
theorem dX12_screensRead_42 : decode cX12_screensRead 42 = .ok (.iload_n 2, 1) := by decide +kernel
theorem dX12_screensRead_43 : decode cX12_screensRead 43 = .ok (.ireturn, 1) := by decide +kernel
theorem dX12_readScreen_0 : decode cX12_readScreen 0 = .ok (.aload_n 0, 1) := by decide +kernel
theorem dX12_readScreen_1 : decode cX12_readScreen 1 = .ok (.aload_n 0, 1) := by decide +kernel
theorem dX12_readScreen_2 : decode cX12_readScreen 2 = .ok (.getfield 13, 3) := by decide +kernel
theorem dX12_readScreen_5 : decode cX12_readScreen 5 = .ok (.iconst 1, 1) := by decide +kernel
theorem dX12_readScreen_6 : decode cX12_readScreen 6 = .ok (.iaload, 1) := by decide +kernel
theorem dX12_readScreen_7 : decode cX12_readScreen 7 = .ok (.bipush 10, 2) := by decide +kernel
theorem dX12_readScreen_9 : decode cX12_readScreen 9 = .ok (.if_icmp .ge 7, 3) := by decide +kernel
theorem dX12_readScreen_12 : decode cX12_readScreen 12 = .ok (.iconst 1, 1) := by decide +kernel
theorem dX12_readScreen_13 : decode cX12_readScreen 13 = .ok (.goto 4, 3) := by decide +kernel
theorem dX12_readScreen_16 : decode cX12_readScreen 16 = .ok (.iconst 0, 1) := by decide +kernel
theorem dX12_readScreen_17 : decode cX12_readScreen 17 = .ok (.iconst 3, 1) := by decide +kernel
theorem dX12_readScreen_18 : decode cX12_readScreen 18 = .ok (.invokevirtual 382, 3) := by decide +kernel
theorem dX12_readScreen_21 : decode cX12_readScreen 21 = .ok (.aload_n 0, 1) := by decide +kernel
theorem dX12_readScreen_22 : decode cX12_readScreen 22 = .ok (.invokevirtual 386, 3) := by decide +kernel
theorem dX12_readScreen_25 : decode cX12_readScreen 25 = .ok (.aload_n 0, 1) := by decide +kernel
theorem dX12_readScreen_26 : decode cX12_readScreen 26 = .ok (.aload_n 0, 1) := by decide +kernel
theorem dX12_readScreen_27 : decode cX12_readScreen 27 = .ok (.getfield 363, 3) := by decide +kernel
theorem dX12_readScreen_30 : decode cX12_readScreen 30 = .ok (.ifCond .ne 11, 3) := by decide +kernel
theorem dX12_readScreen_33 : decode cX12_readScreen 33 = .ok (.aload_n 0, 1) := by decide +kernel
theorem dX12_readScreen_34 : decode cX12_readScreen 34 = .ok (.getfield 354, 3) := by decide +kernel
theorem dX12_readScreen_37 : decode cX12_readScreen 37 = .ok (.iconst 2, 1) := by decide +kernel
theorem dX12_readScreen_38 : decode cX12_readScreen 38 = .ok (.if_icmp .ne 7, 3) := by decide +kernel
theorem dX12_readScreen_41 : decode cX12_readScreen 41 = .ok (.iconst 1, 1) := by decide +kernel
theorem dX12_readScreen_42 : decode cX12_readScreen 42 = .ok (.goto 4, 3) := by decide +kernel
theorem dX12_readScreen_45 : decode cX12_readScreen 45 = .ok (.iconst 0, 1) := by decide +kernel
theorem dX12_readScreen_46 : decode cX12_readScreen 46 = .ok (.iconst 1, 1) := by decide +kernel
theorem dX12_readScreen_47 : decode cX12_readScreen 47 = .ok (.invokevirtual 382, 3) := by decide +kernel
theorem dX12_readScreen_50 : decode cX12_readScreen 50 = .ok (.aload_n 0, 1) := by decide +kernel
theorem dX12_readScreen_51 : decode cX12_readScreen 51 = .ok (.aload_n 0, 1) := by decide +kernel
theorem dX12_readScreen_52 : decode cX12_readScreen 52 = .ok (.getfield 363, 3) := by decide +kernel
theorem dX12_readScreen_55 : decode cX12_readScreen 55 = .ok (.ifCond .ne 22, 3) := by decide +kernel
theorem dX12_readScreen_58 : decode cX12_readScreen 58 = .ok (.aload_n 0, 1) := by decide +kernel
theorem dX12_readScreen_59 : decode cX12_readScreen 59 = .ok (.invokevirtual 401, 3) := by decide +kernel
theorem dX12_readScreen_62 : decode cX12_readScreen 62 = .ok (.iconst 0, 1) := by decide +kernel
theorem dX12_readScreen_63 : decode cX12_readScreen 63 = .ok (.aload_n 0, 1) := by decide +kernel
theorem dX12_readScreen_64 : decode cX12_readScreen 64 = .ok (.getfield 13, 3) := by decide +kernel
theorem dX12_readScreen_67 : decode cX12_readScreen 67 = .ok (.iconst 0, 1) := by decide +kernel
theorem dX12_readScreen_68 : decode cX12_readScreen 68 = .ok (.iaload, 1) := by decide +kernel
theorem dX12_readScreen_69 : decode cX12_readScreen 69 = .ok (.iconst 1, 1) := by decide +kernel
theorem dX12_readScreen_70 : decode cX12_readScreen 70 = .ok (.isub, 1) := by decide +kernel
theorem dX12_readScreen_71 : decode cX12_readScreen 71 = .ok (.invokestatic 109, 3) := by decide +kernel
theorem dX12_readScreen_74 : decode cX12_readScreen 74 = .ok (.ifCond .eq 7, 3) := by decide +kernel
theorem dX12_readScreen_77 : decode cX12_readScreen 77 = .ok (.iconst 1, 1) := by decide +kernel
theorem dX12_readScreen_78 : decode cX12_readScreen 78 = .ok (.goto 4, 3) := by decide +kernel
theorem dX12_readScreen_81 : decode cX12_readScreen 81 = .ok (.iconst 0, 1) := by decide +kernel
theorem dX12_readScreen_82 : decode cX12_readScreen 82 = .ok (.iconst 2, 1) := by decide +kernel
theorem dX12_readScreen_83 : decode cX12_readScreen 83 = .ok (.invokevirtual 382, 3) := by decide +kernel
theorem dX12_readScreen_86 : decode cX12_readScreen 86 = .ok (.aload_n 0, 1) := by decide +kernel
theorem dX12_readScreen_87 : decode cX12_readScreen 87 = .ok (.aload_n 0, 1) := by decide +kernel
theorem dX12_readScreen_88 : decode cX12_readScreen 88 = .ok (.getfield 363, 3) := by decide +kernel
theorem dX12_readScreen_91 : decode cX12_readScreen 91 = .ok (.ifCond .ne 15, 3) := by decide +kernel
theorem dX12_readScreen_94 : decode cX12_readScreen 94 = .ok (.aload_n 0, 1) := by decide +kernel
theorem dX12_readScreen_95 : decode cX12_readScreen 95 = .ok (.aload_n 0, 1) := by decide +kernel
theorem dX12_readScreen_96 : decode cX12_readScreen 96 = .ok (.invokevirtual 401, 3) := by decide +kernel
theorem dX12_readScreen_99 : decode cX12_readScreen 99 = .ok (.invokevirtual 407, 3) := by decide +kernel
theorem dX12_readScreen_102 : decode cX12_readScreen 102 = .ok (.iconst 4, 1) := by decide +kernel
theorem dX12_readScreen_103 : decode cX12_readScreen 103 = .ok (.if_icmp .ge 7, 3) := by decide +kernel
theorem dX12_readScreen_106 : decode cX12_readScreen 106 = .ok (.iconst 1, 1) := by decide +kernel
theorem dX12_readScreen_107 : decode cX12_readScreen 107 = .ok (.goto 4, 3) := by decide +kernel
theorem dX12_readScreen_110 : decode cX12_readScreen 110 = .ok (.iconst 0, 1) := by decide +kernel
theorem dX12_readScreen_111 : decode cX12_readScreen 111 = .ok (.iconst 4, 1) := by decide +kernel
theorem dX12_readScreen_112 : decode cX12_readScreen 112 = .ok (.invokevirtual 382, 3) := by decide +kernel
theorem dX12_readScreen_115 : decode cX12_readScreen 115 = .ok (.aload_n 0, 1) := by decide +kernel
theorem dX12_readScreen_116 : decode cX12_readScreen 116 = .ok (.getfield 363, 3) := by decide +kernel
theorem dX12_readScreen_119 : decode cX12_readScreen 119 = .ok (.ifCond .ne 10, 3) := by decide +kernel
theorem dX12_readScreen_122 : decode cX12_readScreen 122 = .ok (.aload_n 0, 1) := by decide +kernel
theorem dX12_readScreen_123 : decode cX12_readScreen 123 = .ok (.invokevirtual 401, 3) := by decide +kernel
theorem dX12_readScreen_126 : decode cX12_readScreen 126 = .ok (.goto 4, 3) := by decide +kernel
theorem dX12_readScreen_129 : decode cX12_readScreen 129 = .ok (.iconst 0, 1) := by decide +kernel
theorem dX12_readScreen_130 : decode cX12_readScreen 130 = .ok (.istore_n 1, 1) := by decide +kernel
theorem dX12_readScreen_131 : decode cX12_readScreen 131 = .ok (.aload_n 0, 1) := by decide +kernel
theorem dX12_readScreen_132 : decode cX12_readScreen 132 = .ok (.invokevirtual 386, 3) := by decide +kernel
theorem dX12_readScreen_135 : decode cX12_readScreen 135 = .ok (.aload_n 0, 1) := by decide +kernel
theorem dX12_readScreen_136 : decode cX12_readScreen 136 = .ok (.iconst 1, 1) := by decide +kernel
theorem dX12_readScreen_137 : decode cX12_readScreen 137 = .ok (.sipush 500, 3) := by decide +kernel
theorem dX12_readScreen_140 : decode cX12_readScreen 140 = .ok (.invokevirtual 404, 3) := by decide +kernel
theorem dX12_readScreen_143 : decode cX12_readScreen 143 = .ok (.istore_n 2, 1) := by decide +kernel
theorem dX12_readScreen_144 : decode cX12_readScreen 144 = .ok (.aload_n 0, 1) := by decide +kernel
theorem dX12_readScreen_145 : decode cX12_readScreen 145 = .ok (.iconst 1, 1) := by decide +kernel
theorem dX12_readScreen_146 : decode cX12_readScreen 146 = .ok (.bipush 6, 2) := by decide +kernel
theorem dX12_readScreen_148 : decode cX12_readScreen 148 = .ok (.invokevirtual 404, 3) := by decide +kernel
theorem dX12_readScreen_151 : decode cX12_readScreen 151 = .ok (.istore_n 3, 1) := by decide +kernel
theorem dX12_readScreen_152 : decode cX12_readScreen 152 = .ok (.aload_n 0, 1) := by decide +kernel
theorem dX12_readScreen_153 : decode cX12_readScreen 153 = .ok (.iconst 0, 1) := by decide +kernel
theorem dX12_readScreen_154 : decode cX12_readScreen 154 = .ok (.sipush 9999, 3) := by decide +kernel
theorem dX12_readScreen_157 : decode cX12_readScreen 157 = .ok (.invokevirtual 404, 3) := by decide +kernel
theorem dX12_readScreen_160 : decode cX12_readScreen 160 = .ok (.istore 4, 2) := by decide +kernel
theorem dX12_readScreen_162 : decode cX12_readScreen 162 = .ok (.aload_n 0, 1) := by decide +kernel
theorem dX12_readScreen_163 : decode cX12_readScreen 163 = .ok (.getfield 363, 3) := by decide +kernel
theorem dX12_readScreen_166 : decode cX12_readScreen 166 = .ok (.ifCond .ne 83, 3) := by decide +kernel
theorem dX12_readScreen_169 : decode cX12_readScreen 169 = .ok (.aload_n 0, 1) := by decide +kernel
theorem dX12_readScreen_170 : decode cX12_readScreen 170 = .ok (.getfield 13, 3) := by decide +kernel
theorem dX12_readScreen_173 : decode cX12_readScreen 173 = .ok (.iconst 1, 1) := by decide +kernel
theorem dX12_readScreen_174 : decode cX12_readScreen 174 = .ok (.iaload, 1) := by decide +kernel
theorem dX12_readScreen_175 : decode cX12_readScreen 175 = .ok (.istore 5, 2) := by decide +kernel
theorem dX12_readScreen_177 : decode cX12_readScreen 177 = .ok (.aload_n 0, 1) := by decide +kernel
theorem dX12_readScreen_178 : decode cX12_readScreen 178 = .ok (.getfield 13, 3) := by decide +kernel
theorem dX12_readScreen_181 : decode cX12_readScreen 181 = .ok (.iload 5, 2) := by decide +kernel
theorem dX12_readScreen_183 : decode cX12_readScreen 183 = .ok (.iconst 0, 1) := by decide +kernel
theorem dX12_readScreen_184 : decode cX12_readScreen 184 = .ok (.invokestatic 96, 3) := by decide +kernel
theorem dX12_readScreen_187 : decode cX12_readScreen 187 = .ok (.iload_n 1, 1) := by decide +kernel
theorem dX12_readScreen_188 : decode cX12_readScreen 188 = .ok (.iastore, 1) := by decide +kernel
theorem dX12_readScreen_189 : decode cX12_readScreen 189 = .ok (.aload_n 0, 1) := by decide +kernel
theorem dX12_readScreen_190 : decode cX12_readScreen 190 = .ok (.getfield 13, 3) := by decide +kernel
theorem dX12_readScreen_193 : decode cX12_readScreen 193 = .ok (.iload 5, 2) := by decide +kernel
theorem dX12_readScreen_195 : decode cX12_readScreen 195 = .ok (.iconst 1, 1) := by decide +kernel
theorem dX12_readScreen_196 : decode cX12_readScreen 196 = .ok (.invokestatic 96, 3) := by decide +kernel
theorem dX12_readScreen_199 : decode cX12_readScreen 199 = .ok (.iload_n 2, 1) := by decide +kernel
theorem dX12_readScreen_200 : decode cX12_readScreen 200 = .ok (.iastore, 1) := by decide +kernel
theorem dX12_readScreen_201 : decode cX12_readScreen 201 = .ok (.aload_n 0, 1) := by decide +kernel
theorem dX12_readScreen_202 : decode cX12_readScreen 202 = .ok (.getfield 13, 3) := by decide +kernel
theorem dX12_readScreen_205 : decode cX12_readScreen 205 = .ok (.iload 5, 2) := by decide +kernel
theorem dX12_readScreen_207 : decode cX12_readScreen 207 = .ok (.iconst 2, 1) := by decide +kernel
theorem dX12_readScreen_208 : decode cX12_readScreen 208 = .ok (.invokestatic 96, 3) := by decide +kernel
theorem dX12_readScreen_211 : decode cX12_readScreen 211 = .ok (.iload_n 3, 1) := by decide +kernel
theorem dX12_readScreen_212 : decode cX12_readScreen 212 = .ok (.iastore, 1) := by decide +kernel
theorem dX12_readScreen_213 : decode cX12_readScreen 213 = .ok (.aload_n 0, 1) := by decide +kernel
theorem dX12_readScreen_214 : decode cX12_readScreen 214 = .ok (.getfield 13, 3) := by decide +kernel
theorem dX12_readScreen_217 : decode cX12_readScreen 217 = .ok (.iload 5, 2) := by decide +kernel
theorem dX12_readScreen_219 : decode cX12_readScreen 219 = .ok (.iconst 3, 1) := by decide +kernel
theorem dX12_readScreen_220 : decode cX12_readScreen 220 = .ok (.invokestatic 96, 3) := by decide +kernel
theorem dX12_readScreen_223 : decode cX12_readScreen 223 = .ok (.iload 4, 2) := by decide +kernel
theorem dX12_readScreen_225 : decode cX12_readScreen 225 = .ok (.iastore, 1) := by decide +kernel
theorem dX12_readScreen_226 : decode cX12_readScreen 226 = .ok (.aload_n 0, 1) := by decide +kernel
theorem dX12_readScreen_227 : decode cX12_readScreen 227 = .ok (.getfield 13, 3) := by decide +kernel
theorem dX12_readScreen_230 : decode cX12_readScreen 230 = .ok (.iload 5, 2) := by decide +kernel
theorem dX12_readScreen_232 : decode cX12_readScreen 232 = .ok (.iconst (-1), 1) := by decide +kernel
theorem dX12_readScreen_233 : decode cX12_readScreen 233 = .ok (.iconst (-1), 1) := by decide +kernel
theorem dX12_readScreen_234 : decode cX12_readScreen 234 = .ok (.iconst 0, 1) := by decide +kernel
theorem dX12_readScreen_235 : decode cX12_readScreen 235 = .ok (.iconst 0, 1) := by decide +kernel
theorem dX12_readScreen_236 : decode cX12_readScreen 236 = .ok (.invokestatic 274, 3) := by decide +kernel
theorem dX12_readScreen_239 : decode cX12_readScreen 239 = .ok (.aload_n 0, 1) := by decide +kernel
theorem dX12_readScreen_240 : decode cX12_readScreen 240 = .ok (.getfield 13, 3) := by decide +kernel
theorem dX12_readScreen_243 : decode cX12_readScreen 243 = .ok (.iconst 1, 1) := by decide +kernel
theorem dX12_readScreen_244 : decode cX12_readScreen 244 = .ok (.dup2, 1) := by decide +kernel
theorem dX12_readScreen_245 : decode cX12_readScreen 245 = .ok (.iaload, 1) := by decide +kernel
theorem dX12_readScreen_246 : decode cX12_readScreen 246 = .ok (.iconst 1, 1) := by decide +kernel
theorem dX12_readScreen_247 : decode cX12_readScreen 247 = .ok (.iadd, 1) := by decide +kernel
theorem dX12_readScreen_248 : decode cX12_readScreen 248 = .ok (.iastore, 1) := by decide +kernel
theorem dX12_readScreen_249 : decode cX12_readScreen 249 = .ok (.return_, 1) := by decide +kernel
theorem dX12_readTerms_0 : decode cX12_readTerms 0 = .ok (.iconst 0, 1) := by decide +kernel
theorem dX12_readTerms_1 : decode cX12_readTerms 1 = .ok (.istore_n 2, 1) := by decide +kernel
theorem dX12_readTerms_2 : decode cX12_readTerms 2 = .ok (.aload_n 0, 1) := by decide +kernel
theorem dX12_readTerms_3 : decode cX12_readTerms 3 = .ok (.getfield 13, 3) := by decide +kernel
theorem dX12_readTerms_6 : decode cX12_readTerms 6 = .ok (.iload_n 1, 1) := by decide +kernel
theorem dX12_readTerms_7 : decode cX12_readTerms 7 = .ok (.iconst 4, 1) := by decide +kernel
theorem dX12_readTerms_8 : decode cX12_readTerms 8 = .ok (.iload_n 2, 1) := by decide +kernel
theorem dX12_readTerms_9 : decode cX12_readTerms 9 = .ok (.iadd, 1) := by decide +kernel
theorem dX12_readTerms_10 : decode cX12_readTerms 10 = .ok (.invokestatic 99, 3) := by decide +kernel
theorem dX12_readTerms_13 : decode cX12_readTerms 13 = .ok (.aload_n 0, 1) := by decide +kernel
theorem dX12_readTerms_14 : decode cX12_readTerms 14 = .ok (.iconst 0, 1) := by decide +kernel
theorem dX12_readTerms_15 : decode cX12_readTerms 15 = .ok (.bipush 90, 2) := by decide +kernel
theorem dX12_readTerms_17 : decode cX12_readTerms 17 = .ok (.invokevirtual 404, 3) := by decide +kernel
theorem dX12_readTerms_20 : decode cX12_readTerms 20 = .ok (.iastore, 1) := by decide +kernel
theorem dX12_readTerms_21 : decode cX12_readTerms 21 = .ok (.iinc 2 1, 3) := by decide +kernel
theorem dX12_readTerms_24 : decode cX12_readTerms 24 = .ok (.aload_n 0, 1) := by decide +kernel
theorem dX12_readTerms_25 : decode cX12_readTerms 25 = .ok (.getfield 363, 3) := by decide +kernel
theorem dX12_readTerms_28 : decode cX12_readTerms 28 = .ok (.ifCond .ne 16, 3) := by decide +kernel
theorem dX12_readTerms_31 : decode cX12_readTerms 31 = .ok (.aload_n 0, 1) := by decide +kernel
theorem dX12_readTerms_32 : decode cX12_readTerms 32 = .ok (.getfield 354, 3) := by decide +kernel
theorem dX12_readTerms_35 : decode cX12_readTerms 35 = .ok (.iconst 2, 1) := by decide +kernel
theorem dX12_readTerms_36 : decode cX12_readTerms 36 = .ok (.if_icmp .ne 8, 3) := by decide +kernel
theorem dX12_readTerms_39 : decode cX12_readTerms 39 = .ok (.iload_n 2, 1) := by decide +kernel
theorem dX12_readTerms_40 : decode cX12_readTerms 40 = .ok (.iconst 4, 1) := by decide +kernel
theorem dX12_readTerms_41 : decode cX12_readTerms 41 = .ok (.if_icmp .lt (-39), 3) := by decide +kernel
theorem dX12_readTerms_44 : decode cX12_readTerms 44 = .ok (.aload_n 0, 1) := by decide +kernel
theorem dX12_readTerms_45 : decode cX12_readTerms 45 = .ok (.getfield 13, 3) := by decide +kernel
theorem dX12_readTerms_48 : decode cX12_readTerms 48 = .ok (.iload_n 1, 1) := by decide +kernel
theorem dX12_readTerms_49 : decode cX12_readTerms 49 = .ok (.iconst 3, 1) := by decide +kernel
theorem dX12_readTerms_50 : decode cX12_readTerms 50 = .ok (.invokestatic 99, 3) := by decide +kernel
theorem dX12_readTerms_53 : decode cX12_readTerms 53 = .ok (.iload_n 2, 1) := by decide +kernel
theorem dX12_readTerms_54 : decode cX12_readTerms 54 = .ok (.iastore, 1) := by decide +kernel
theorem dX12_readTerms_55 : decode cX12_readTerms 55 = .ok (.return_, 1) := by decide +kernel
theorem dX12_readFilm_0 : decode cX12_readFilm 0 = .ok (.aload_n 0, 1) := by decide +kernel
theorem dX12_readFilm_1 : decode cX12_readFilm 1 = .ok (.aload_n 0, 1) := by decide +kernel
theorem dX12_readFilm_2 : decode cX12_readFilm 2 = .ok (.getfield 13, 3) := by decide +kernel
theorem dX12_readFilm_5 : decode cX12_readFilm 5 = .ok (.iconst 2, 1) := by decide +kernel
theorem dX12_readFilm_6 : decode cX12_readFilm 6 = .ok (.iaload, 1) := by decide +kernel
theorem dX12_readFilm_7 : decode cX12_readFilm 7 = .ok (.bipush 6, 2) := by decide +kernel
theorem dX12_readFilm_9 : decode cX12_readFilm 9 = .ok (.if_icmp .ge 7, 3) := by decide +kernel
theorem dX12_readFilm_12 : decode cX12_readFilm 12 = .ok (.iconst 1, 1) := by decide +kernel
theorem dX12_readFilm_13 : decode cX12_readFilm 13 = .ok (.goto 4, 3) := by decide +kernel
theorem dX12_readFilm_16 : decode cX12_readFilm 16 = .ok (.iconst 0, 1) := by decide +kernel
theorem dX12_readFilm_17 : decode cX12_readFilm 17 = .ok (.iconst 3, 1) := by decide +kernel
theorem dX12_readFilm_18 : decode cX12_readFilm 18 = .ok (.invokevirtual 382, 3) := by decide +kernel
theorem dX12_readFilm_21 : decode cX12_readFilm 21 = .ok (.aload_n 0, 1) := by decide +kernel
theorem dX12_readFilm_22 : decode cX12_readFilm 22 = .ok (.invokevirtual 386, 3) := by decide +kernel
theorem dX12_readFilm_25 : decode cX12_readFilm 25 = .ok (.aload_n 0, 1) := by decide +kernel
theorem dX12_readFilm_26 : decode cX12_readFilm 26 = .ok (.getfield 363, 3) := by decide +kernel
theorem dX12_readFilm_29 : decode cX12_readFilm 29 = .ok (.ifCond .eq 4, 3) := by decide +kernel
theorem dX12_readFilm_32 : decode cX12_readFilm 32 = .ok (.return_, 1) := by decide +kernel
theorem dX12_readFilm_33 : decode cX12_readFilm 33 = .ok (.aload_n 0, 1) := by decide +kernel
theorem dX12_readFilm_34 : decode cX12_readFilm 34 = .ok (.getfield 13, 3) := by decide +kernel
theorem dX12_readFilm_37 : decode cX12_readFilm 37 = .ok (.iconst 2, 1) := by decide +kernel
theorem dX12_readFilm_38 : decode cX12_readFilm 38 = .ok (.iaload, 1) := by decide +kernel
theorem dX12_readFilm_39 : decode cX12_readFilm 39 = .ok (.istore_n 1, 1) := by decide +kernel
theorem dX12_readFilm_40 : decode cX12_readFilm 40 = .ok (.aload_n 0, 1) := by decide +kernel
theorem dX12_readFilm_41 : decode cX12_readFilm 41 = .ok (.getfield 13, 3) := by decide +kernel
theorem dX12_readFilm_44 : decode cX12_readFilm 44 = .ok (.iload_n 1, 1) := by decide +kernel
theorem dX12_readFilm_45 : decode cX12_readFilm 45 = .ok (.iconst 0, 1) := by decide +kernel
theorem dX12_readFilm_46 : decode cX12_readFilm 46 = .ok (.invokestatic 99, 3) := by decide +kernel
theorem dX12_readFilm_49 : decode cX12_readFilm 49 = .ok (.aload_n 0, 1) := by decide +kernel
theorem dX12_readFilm_50 : decode cX12_readFilm 50 = .ok (.iconst 0, 1) := by decide +kernel
theorem dX12_readFilm_51 : decode cX12_readFilm 51 = .ok (.sipush 9999, 3) := by decide +kernel
theorem dX12_readFilm_54 : decode cX12_readFilm 54 = .ok (.invokevirtual 404, 3) := by decide +kernel
theorem dX12_readFilm_57 : decode cX12_readFilm 57 = .ok (.iastore, 1) := by decide +kernel
theorem dX12_readFilm_58 : decode cX12_readFilm 58 = .ok (.aload_n 0, 1) := by decide +kernel
theorem dX12_readFilm_59 : decode cX12_readFilm 59 = .ok (.getfield 13, 3) := by decide +kernel
theorem dX12_readFilm_62 : decode cX12_readFilm 62 = .ok (.iload_n 1, 1) := by decide +kernel
theorem dX12_readFilm_63 : decode cX12_readFilm 63 = .ok (.iconst 1, 1) := by decide +kernel
theorem dX12_readFilm_64 : decode cX12_readFilm 64 = .ok (.invokestatic 99, 3) := by decide +kernel
theorem dX12_readFilm_67 : decode cX12_readFilm 67 = .ok (.aload_n 0, 1) := by decide +kernel
theorem dX12_readFilm_68 : decode cX12_readFilm 68 = .ok (.iconst 0, 1) := by decide +kernel
theorem dX12_readFilm_69 : decode cX12_readFilm 69 = .ok (.bipush 100, 2) := by decide +kernel
theorem dX12_readFilm_71 : decode cX12_readFilm 71 = .ok (.invokevirtual 404, 3) := by decide +kernel
theorem dX12_readFilm_74 : decode cX12_readFilm 74 = .ok (.iastore, 1) := by decide +kernel
theorem dX12_readFilm_75 : decode cX12_readFilm 75 = .ok (.aload_n 0, 1) := by decide +kernel
theorem dX12_readFilm_76 : decode cX12_readFilm 76 = .ok (.getfield 13, 3) := by decide +kernel
theorem dX12_readFilm_79 : decode cX12_readFilm 79 = .ok (.iload_n 1, 1) := by decide +kernel
theorem dX12_readFilm_80 : decode cX12_readFilm 80 = .ok (.iconst 2, 1) := by decide +kernel
theorem dX12_readFilm_81 : decode cX12_readFilm 81 = .ok (.invokestatic 99, 3) := by decide +kernel
theorem dX12_readFilm_84 : decode cX12_readFilm 84 = .ok (.aload_n 0, 1) := by decide +kernel
theorem dX12_readFilm_85 : decode cX12_readFilm 85 = .ok (.iconst 0, 1) := by decide +kernel
theorem dX12_readFilm_86 : decode cX12_readFilm 86 = .ok (.sipush 9999, 3) := by decide +kernel
theorem dX12_readFilm_89 : decode cX12_readFilm 89 = .ok (.invokevirtual 404, 3) := by decide +kernel
theorem dX12_readFilm_92 : decode cX12_readFilm 92 = .ok (.iastore, 1) := by decide +kernel
theorem dX12_readFilm_93 : decode cX12_readFilm 93 = .ok (.aload_n 0, 1) := by decide +kernel
theorem dX12_readFilm_94 : decode cX12_readFilm 94 = .ok (.iload_n 1, 1) := by decide +kernel
theorem dX12_readFilm_95 : decode cX12_readFilm 95 = .ok (.invokevirtual 410, 3) := by decide +kernel
theorem dX12_readFilm_98 : decode cX12_readFilm 98 = .ok (.aload_n 0, 1) := by decide +kernel
theorem dX12_readFilm_99 : decode cX12_readFilm 99 = .ok (.getfield 13, 3) := by decide +kernel
theorem dX12_readFilm_102 : decode cX12_readFilm 102 = .ok (.iload_n 1, 1) := by decide +kernel
theorem dX12_readFilm_103 : decode cX12_readFilm 103 = .ok (.bipush 8, 2) := by decide +kernel
theorem dX12_readFilm_105 : decode cX12_readFilm 105 = .ok (.invokestatic 99, 3) := by decide +kernel
theorem dX12_readFilm_108 : decode cX12_readFilm 108 = .ok (.iconst (-1), 1) := by decide +kernel
theorem dX12_readFilm_109 : decode cX12_readFilm 109 = .ok (.iastore, 1) := by decide +kernel
theorem dX12_readFilm_110 : decode cX12_readFilm 110 = .ok (.aload_n 0, 1) := by decide +kernel
theorem dX12_readFilm_111 : decode cX12_readFilm 111 = .ok (.getfield 13, 3) := by decide +kernel
theorem dX12_readFilm_114 : decode cX12_readFilm 114 = .ok (.iconst 2, 1) := by decide +kernel
theorem dX12_readFilm_115 : decode cX12_readFilm 115 = .ok (.dup2, 1) := by decide +kernel
theorem dX12_readFilm_116 : decode cX12_readFilm 116 = .ok (.iaload, 1) := by decide +kernel
theorem dX12_readFilm_117 : decode cX12_readFilm 117 = .ok (.iconst 1, 1) := by decide +kernel
theorem dX12_readFilm_118 : decode cX12_readFilm 118 = .ok (.iadd, 1) := by decide +kernel
theorem dX12_readFilm_119 : decode cX12_readFilm 119 = .ok (.iastore, 1) := by decide +kernel
theorem dX12_readFilm_120 : decode cX12_readFilm 120 = .ok (.return_, 1) := by decide +kernel
theorem dX12_readPrints_0 : decode cX12_readPrints 0 = .ok (.aload_n 0, 1) := by decide +kernel
theorem dX12_readPrints_1 : decode cX12_readPrints 1 = .ok (.iconst 0, 1) := by decide +kernel
theorem dX12_readPrints_2 : decode cX12_readPrints 2 = .ok (.aload_n 0, 1) := by decide +kernel
theorem dX12_readPrints_3 : decode cX12_readPrints 3 = .ok (.getfield 13, 3) := by decide +kernel
theorem dX12_readPrints_6 : decode cX12_readPrints 6 = .ok (.iconst 2, 1) := by decide +kernel
theorem dX12_readPrints_7 : decode cX12_readPrints 7 = .ok (.iaload, 1) := by decide +kernel
theorem dX12_readPrints_8 : decode cX12_readPrints 8 = .ok (.iconst 1, 1) := by decide +kernel
theorem dX12_readPrints_9 : decode cX12_readPrints 9 = .ok (.isub, 1) := by decide +kernel
theorem dX12_readPrints_10 : decode cX12_readPrints 10 = .ok (.invokevirtual 404, 3) := by decide +kernel
theorem dX12_readPrints_13 : decode cX12_readPrints 13 = .ok (.istore_n 1, 1) := by decide +kernel
theorem dX12_readPrints_14 : decode cX12_readPrints 14 = .ok (.aload_n 0, 1) := by decide +kernel
theorem dX12_readPrints_15 : decode cX12_readPrints 15 = .ok (.ldc_w 413, 3) := by decide +kernel
theorem dX12_readPrints_18 : decode cX12_readPrints 18 = .ok (.invokevirtual 415, 3) := by decide +kernel
theorem dX12_readPrints_21 : decode cX12_readPrints 21 = .ok (.ifCond .eq 7, 3) := by decide +kernel
theorem dX12_readPrints_24 : decode cX12_readPrints 24 = .ok (.iconst (-1), 1) := by decide +kernel
theorem dX12_readPrints_25 : decode cX12_readPrints 25 = .ok (.goto 16, 3) := by decide +kernel
theorem dX12_readPrints_28 : decode cX12_readPrints 28 = .ok (.aload_n 0, 1) := by decide +kernel
theorem dX12_readPrints_29 : decode cX12_readPrints 29 = .ok (.iconst 0, 1) := by decide +kernel
theorem dX12_readPrints_30 : decode cX12_readPrints 30 = .ok (.aload_n 0, 1) := by decide +kernel
theorem dX12_readPrints_31 : decode cX12_readPrints 31 = .ok (.getfield 13, 3) := by decide +kernel
theorem dX12_readPrints_34 : decode cX12_readPrints 34 = .ok (.iconst 0, 1) := by decide +kernel
theorem dX12_readPrints_35 : decode cX12_readPrints 35 = .ok (.iaload, 1) := by decide +kernel
theorem dX12_readPrints_36 : decode cX12_readPrints 36 = .ok (.iconst 1, 1) := by decide +kernel
theorem dX12_readPrints_37 : decode cX12_readPrints 37 = .ok (.isub, 1) := by decide +kernel
theorem dX12_readPrints_38 : decode cX12_readPrints 38 = .ok (.invokevirtual 404, 3) := by decide +kernel
theorem dX12_readPrints_41 : decode cX12_readPrints 41 = .ok (.istore_n 2, 1) := by decide +kernel
theorem dX12_readPrints_42 : decode cX12_readPrints 42 = .ok (.aload_n 0, 1) := by decide +kernel
theorem dX12_readPrints_43 : decode cX12_readPrints 43 = .ok (.iconst 0, 1) := by decide +kernel
theorem dX12_readPrints_44 : decode cX12_readPrints 44 = .ok (.bipush 9, 2) := by decide +kernel
theorem dX12_readPrints_46 : decode cX12_readPrints 46 = .ok (.invokevirtual 404, 3) := by decide +kernel
theorem dX12_readPrints_49 : decode cX12_readPrints 49 = .ok (.istore_n 3, 1) := by decide +kernel
theorem dX12_readPrints_50 : decode cX12_readPrints 50 = .ok (.aload_n 0, 1) := by decide +kernel
theorem dX12_readPrints_51 : decode cX12_readPrints 51 = .ok (.getfield 363, 3) := by decide +kernel
theorem dX12_readPrints_54 : decode cX12_readPrints 54 = .ok (.ifCond .ne 14, 3) := by decide +kernel
theorem dX12_readPrints_57 : decode cX12_readPrints 57 = .ok (.aload_n 0, 1) := by decide +kernel
theorem dX12_readPrints_58 : decode cX12_readPrints 58 = .ok (.getfield 13, 3) := by decide +kernel
theorem dX12_readPrints_61 : decode cX12_readPrints 61 = .ok (.iload_n 1, 1) := by decide +kernel
theorem dX12_readPrints_62 : decode cX12_readPrints 62 = .ok (.iload_n 2, 1) := by decide +kernel
theorem dX12_readPrints_63 : decode cX12_readPrints 63 = .ok (.invokestatic 102, 3) := by decide +kernel
theorem dX12_readPrints_66 : decode cX12_readPrints 66 = .ok (.iload_n 3, 1) := by decide +kernel
theorem dX12_readPrints_67 : decode cX12_readPrints 67 = .ok (.iastore, 1) := by decide +kernel
theorem dX12_readPrints_68 : decode cX12_readPrints 68 = .ok (.return_, 1) := by decide +kernel
theorem dX12_readClause_0 : decode cX12_readClause 0 = .ok (.aload_n 0, 1) := by decide +kernel
theorem dX12_readClause_1 : decode cX12_readClause 1 = .ok (.ldc 58, 2) := by decide +kernel
theorem dX12_readClause_3 : decode cX12_readClause 3 = .ok (.invokevirtual 378, 3) := by decide +kernel
theorem dX12_readClause_6 : decode cX12_readClause 6 = .ok (.ifCond .eq 10, 3) := by decide +kernel
theorem dX12_readClause_9 : decode cX12_readClause 9 = .ok (.aload_n 0, 1) := by decide +kernel
theorem dX12_readClause_10 : decode cX12_readClause 10 = .ok (.invokevirtual 418, 3) := by decide +kernel
theorem dX12_readClause_13 : decode cX12_readClause 13 = .ok (.goto 74, 3) := by decide +kernel
theorem dX12_readClause_16 : decode cX12_readClause 16 = .ok (.aload_n 0, 1) := by decide +kernel
theorem dX12_readClause_17 : decode cX12_readClause 17 = .ok (.ldc 56, 2) := by decide +kernel
theorem dX12_readClause_19 : decode cX12_readClause 19 = .ok (.invokevirtual 378, 3) := by decide +kernel
theorem dX12_readClause_22 : decode cX12_readClause 22 = .ok (.ifCond .eq 10, 3) := by decide +kernel
theorem dX12_readClause_25 : decode cX12_readClause 25 = .ok (.aload_n 0, 1) := by decide +kernel
theorem dX12_readClause_26 : decode cX12_readClause 26 = .ok (.invokevirtual 421, 3) := by decide +kernel
theorem dX12_readClause_29 : decode cX12_readClause 29 = .ok (.goto 58, 3) := by decide +kernel
theorem dX12_readClause_32 : decode cX12_readClause 32 = .ok (.aload_n 0, 1) := by decide +kernel
theorem dX12_readClause_33 : decode cX12_readClause 33 = .ok (.ldc_w 424, 3) := by decide +kernel
theorem dX12_readClause_36 : decode cX12_readClause 36 = .ok (.invokevirtual 378, 3) := by decide +kernel
theorem dX12_readClause_39 : decode cX12_readClause 39 = .ok (.ifCond .eq 10, 3) := by decide +kernel
theorem dX12_readClause_42 : decode cX12_readClause 42 = .ok (.aload_n 0, 1) := by decide +kernel
theorem dX12_readClause_43 : decode cX12_readClause 43 = .ok (.invokevirtual 426, 3) := by decide +kernel
theorem dX12_readClause_46 : decode cX12_readClause 46 = .ok (.goto 41, 3) := by decide +kernel
theorem dX12_readClause_49 : decode cX12_readClause 49 = .ok (.aload_n 0, 1) := by decide +kernel
theorem dX12_readClause_50 : decode cX12_readClause 50 = .ok (.ldc_w 429, 3) := by decide +kernel
theorem dX12_readClause_53 : decode cX12_readClause 53 = .ok (.invokevirtual 415, 3) := by decide +kernel
theorem dX12_readClause_56 : decode cX12_readClause 56 = .ok (.ifCond .eq 10, 3) := by decide +kernel
theorem dX12_readClause_59 : decode cX12_readClause 59 = .ok (.aload_n 0, 1) := by decide +kernel
theorem dX12_readClause_60 : decode cX12_readClause 60 = .ok (.invokevirtual 431, 3) := by decide +kernel
theorem dX12_readClause_63 : decode cX12_readClause 63 = .ok (.goto 24, 3) := by decide +kernel
theorem dX12_readClause_66 : decode cX12_readClause 66 = .ok (.aload_n 0, 1) := by decide +kernel
theorem dX12_readClause_67 : decode cX12_readClause 67 = .ok (.ldc_w 434, 3) := by decide +kernel
theorem dX12_readClause_70 : decode cX12_readClause 70 = .ok (.invokevirtual 436, 3) := by decide +kernel
theorem dX12_readClause_73 : decode cX12_readClause 73 = .ok (.aload_n 0, 1) := by decide +kernel
theorem dX12_readClause_74 : decode cX12_readClause 74 = .ok (.getfield 13, 3) := by decide +kernel
theorem dX12_readClause_77 : decode cX12_readClause 77 = .ok (.iconst 4, 1) := by decide +kernel
theorem dX12_readClause_78 : decode cX12_readClause 78 = .ok (.aload_n 0, 1) := by decide +kernel
theorem dX12_readClause_79 : decode cX12_readClause 79 = .ok (.iconst 0, 1) := by decide +kernel
theorem dX12_readClause_80 : decode cX12_readClause 80 = .ok (.sipush 999, 3) := by decide +kernel
theorem dX12_readClause_83 : decode cX12_readClause 83 = .ok (.invokevirtual 404, 3) := by decide +kernel
theorem dX12_readClause_86 : decode cX12_readClause 86 = .ok (.iastore, 1) := by decide +kernel
theorem dX12_readClause_87 : decode cX12_readClause 87 = .ok (.aload_n 0, 1) := by decide +kernel
theorem dX12_readClause_88 : decode cX12_readClause 88 = .ok (.bipush 59, 2) := by decide +kernel
theorem dX12_readClause_90 : decode cX12_readClause 90 = .ok (.invokevirtual 440, 3) := by decide +kernel
theorem dX12_readClause_93 : decode cX12_readClause 93 = .ok (.return_, 1) := by decide +kernel
theorem dX12_load_0 : decode cX12_load 0 = .ok (.aload_n 0, 1) := by decide +kernel
theorem dX12_load_1 : decode cX12_load 1 = .ok (.iconst 0, 1) := by decide +kernel
theorem dX12_load_2 : decode cX12_load 2 = .ok (.putfield 89, 3) := by decide +kernel
theorem dX12_load_5 : decode cX12_load 5 = .ok (.iload_n 1, 1) := by decide +kernel
theorem dX12_load_6 : decode cX12_load 6 = .ok (.iconst 0, 1) := by decide +kernel
theorem dX12_load_7 : decode cX12_load 7 = .ok (.aload_n 0, 1) := by decide +kernel
theorem dX12_load_8 : decode cX12_load 8 = .ok (.getfield 339, 3) := by decide +kernel
theorem dX12_load_11 : decode cX12_load 11 = .ok (.invokestatic 109, 3) := by decide +kernel
theorem dX12_load_14 : decode cX12_load 14 = .ok (.ifCond .ne 9, 3) := by decide +kernel
theorem dX12_load_17 : decode cX12_load 17 = .ok (.aload_n 0, 1) := by decide +kernel
theorem dX12_load_18 : decode cX12_load 18 = .ok (.iconst 1, 1) := by decide +kernel
theorem dX12_load_19 : decode cX12_load 19 = .ok (.invokevirtual 238, 3) := by decide +kernel
theorem dX12_load_22 : decode cX12_load 22 = .ok (.ireturn, 1) := by decide +kernel
theorem dX12_load_23 : decode cX12_load 23 = .ok (.aload_n 0, 1) := by decide +kernel
theorem dX12_load_24 : decode cX12_load 24 = .ok (.getfield 13, 3) := by decide +kernel
theorem dX12_load_27 : decode cX12_load 27 = .ok (.invokestatic 85, 3) := by decide +kernel
theorem dX12_load_30 : decode cX12_load 30 = .ok (.aload_n 0, 1) := by decide +kernel
theorem dX12_load_31 : decode cX12_load 31 = .ok (.iload_n 1, 1) := by decide +kernel
theorem dX12_load_32 : decode cX12_load 32 = .ok (.invokevirtual 443, 3) := by decide +kernel
theorem dX12_load_35 : decode cX12_load 35 = .ok (.aload_n 0, 1) := by decide +kernel
theorem dX12_load_36 : decode cX12_load 36 = .ok (.getfield 363, 3) := by decide +kernel
theorem dX12_load_39 : decode cX12_load 39 = .ok (.ifCond .ne 17, 3) := by decide +kernel
theorem dX12_load_42 : decode cX12_load 42 = .ok (.aload_n 0, 1) := by decide +kernel
theorem dX12_load_43 : decode cX12_load 43 = .ok (.getfield 354, 3) := by decide +kernel
theorem dX12_load_46 : decode cX12_load 46 = .ok (.ifCond .eq 10, 3) := by decide +kernel
theorem dX12_load_49 : decode cX12_load 49 = .ok (.aload_n 0, 1) := by decide +kernel
theorem dX12_load_50 : decode cX12_load 50 = .ok (.invokevirtual 446, 3) := by decide +kernel
theorem dX12_load_53 : decode cX12_load 53 = .ok (.goto (-18), 3) := by decide +kernel
theorem dX12_load_56 : decode cX12_load 56 = .ok (.aload_n 0, 1) := by decide +kernel
theorem dX12_load_57 : decode cX12_load 57 = .ok (.invokevirtual 449, 3) := by decide +kernel
theorem dX12_load_60 : decode cX12_load 60 = .ok (.ifCond .eq 11, 3) := by decide +kernel
theorem dX12_load_63 : decode cX12_load 63 = .ok (.bipush (-10), 2) := by decide +kernel
theorem dX12_load_65 : decode cX12_load 65 = .ok (.aload_n 0, 1) := by decide +kernel
theorem dX12_load_66 : decode cX12_load 66 = .ok (.getfield 363, 3) := by decide +kernel
theorem dX12_load_69 : decode cX12_load 69 = .ok (.isub, 1) := by decide +kernel
theorem dX12_load_70 : decode cX12_load 70 = .ok (.ireturn, 1) := by decide +kernel
theorem dX12_load_71 : decode cX12_load 71 = .ok (.aload_n 0, 1) := by decide +kernel
theorem dX12_load_72 : decode cX12_load 72 = .ok (.getfield 13, 3) := by decide +kernel
theorem dX12_load_75 : decode cX12_load 75 = .ok (.iconst 0, 1) := by decide +kernel
theorem dX12_load_76 : decode cX12_load 76 = .ok (.aload_n 0, 1) := by decide +kernel
theorem dX12_load_77 : decode cX12_load 77 = .ok (.getfield 9, 3) := by decide +kernel
theorem dX12_load_80 : decode cX12_load 80 = .ok (.iconst 0, 1) := by decide +kernel
theorem dX12_load_81 : decode cX12_load 81 = .ok (.invokestatic 331, 3) := by decide +kernel
theorem dX12_load_84 : decode cX12_load 84 = .ok (.aload_n 0, 1) := by decide +kernel
theorem dX12_load_85 : decode cX12_load 85 = .ok (.iconst 0, 1) := by decide +kernel
theorem dX12_load_86 : decode cX12_load 86 = .ok (.putfield 328, 3) := by decide +kernel
theorem dX12_load_89 : decode cX12_load 89 = .ok (.aload_n 0, 1) := by decide +kernel
theorem dX12_load_90 : decode cX12_load 90 = .ok (.iconst 0, 1) := by decide +kernel
theorem dX12_load_91 : decode cX12_load 91 = .ok (.putfield 335, 3) := by decide +kernel
theorem dX12_load_94 : decode cX12_load 94 = .ok (.aload_n 0, 1) := by decide +kernel
theorem dX12_load_95 : decode cX12_load 95 = .ok (.invokevirtual 113, 3) := by decide +kernel
theorem dX12_load_98 : decode cX12_load 98 = .ok (.ireturn, 1) := by decide +kernel
theorem dX12_emit_0 : decode cX12_emit 0 = .ok (.aload_n 0, 1) := by decide +kernel
theorem dX12_emit_1 : decode cX12_emit 1 = .ok (.getfield 363, 3) := by decide +kernel
theorem dX12_emit_4 : decode cX12_emit 4 = .ok (.ifCond .ne 23, 3) := by decide +kernel
theorem dX12_emit_7 : decode cX12_emit 7 = .ok (.aload_n 0, 1) := by decide +kernel
theorem dX12_emit_8 : decode cX12_emit 8 = .ok (.getfield 78, 3) := by decide +kernel
theorem dX12_emit_11 : decode cX12_emit 11 = .ok (.aload_n 0, 1) := by decide +kernel
theorem dX12_emit_12 : decode cX12_emit 12 = .ok (.getfield 452, 3) := by decide +kernel
theorem dX12_emit_15 : decode cX12_emit 15 = .ok (.iload_n 1, 1) := by decide +kernel
theorem dX12_emit_16 : decode cX12_emit 16 = .ok (.iastore, 1) := by decide +kernel
theorem dX12_emit_17 : decode cX12_emit 17 = .ok (.aload_n 0, 1) := by decide +kernel
theorem dX12_emit_18 : decode cX12_emit 18 = .ok (.dup, 1) := by decide +kernel
theorem dX12_emit_19 : decode cX12_emit 19 = .ok (.getfield 452, 3) := by decide +kernel
theorem dX12_emit_22 : decode cX12_emit 22 = .ok (.iconst 1, 1) := by decide +kernel
theorem dX12_emit_23 : decode cX12_emit 23 = .ok (.iadd, 1) := by decide +kernel
theorem dX12_emit_24 : decode cX12_emit 24 = .ok (.putfield 452, 3) := by decide +kernel
theorem dX12_emit_27 : decode cX12_emit 27 = .ok (.return_, 1) := by decide +kernel
theorem dX12_enter_0 : decode cX12_enter 0 = .ok (.aload_n 0, 1) := by decide +kernel
theorem dX12_enter_1 : decode cX12_enter 1 = .ok (.aload_n 0, 1) := by decide +kernel
theorem dX12_enter_2 : decode cX12_enter 2 = .ok (.getfield 366, 3) := by decide +kernel
theorem dX12_enter_5 : decode cX12_enter 5 = .ok (.bipush 6, 2) := by decide +kernel
theorem dX12_enter_7 : decode cX12_enter 7 = .ok (.if_icmp .ge 7, 3) := by decide +kernel
theorem dX12_enter_10 : decode cX12_enter 10 = .ok (.iconst 1, 1) := by decide +kernel
theorem dX12_enter_11 : decode cX12_enter 11 = .ok (.goto 4, 3) := by decide +kernel
theorem dX12_enter_14 : decode cX12_enter 14 = .ok (.iconst 0, 1) := by decide +kernel
theorem dX12_enter_15 : decode cX12_enter 15 = .ok (.iconst 3, 1) := by decide +kernel
theorem dX12_enter_16 : decode cX12_enter 16 = .ok (.invokevirtual 382, 3) := by decide +kernel
theorem dX12_enter_19 : decode cX12_enter 19 = .ok (.aload_n 0, 1) := by decide +kernel
theorem dX12_enter_20 : decode cX12_enter 20 = .ok (.dup, 1) := by decide +kernel
theorem dX12_enter_21 : decode cX12_enter 21 = .ok (.getfield 366, 3) := by decide +kernel
theorem dX12_enter_24 : decode cX12_enter 24 = .ok (.iconst 1, 1) := by decide +kernel
theorem dX12_enter_25 : decode cX12_enter 25 = .ok (.iadd, 1) := by decide +kernel
theorem dX12_enter_26 : decode cX12_enter 26 = .ok (.putfield 366, 3) := by decide +kernel
theorem dX12_enter_29 : decode cX12_enter 29 = .ok (.aload_n 0, 1) := by decide +kernel
theorem dX12_enter_30 : decode cX12_enter 30 = .ok (.invokevirtual 386, 3) := by decide +kernel
theorem dX12_enter_33 : decode cX12_enter 33 = .ok (.return_, 1) := by decide +kernel
theorem dX12_compileValue_0 : decode cX12_compileValue 0 = .ok (.aload_n 0, 1) := by decide +kernel
theorem dX12_compileValue_1 : decode cX12_compileValue 1 = .ok (.getfield 363, 3) := by decide +kernel
theorem dX12_compileValue_4 : decode cX12_compileValue 4 = .ok (.ifCond .ne 11, 3) := by decide +kernel
theorem dX12_compileValue_7 : decode cX12_compileValue 7 = .ok (.aload_n 0, 1) := by decide +kernel
theorem dX12_compileValue_8 : decode cX12_compileValue 8 = .ok (.getfield 354, 3) := by decide +kernel
theorem dX12_compileValue_11 : decode cX12_compileValue 11 = .ok (.iconst 2, 1) := by decide +kernel
theorem dX12_compileValue_12 : decode cX12_compileValue 12 = .ok (.if_icmp .ne 16, 3) := by decide +kernel
theorem dX12_compileValue_15 : decode cX12_compileValue 15 = .ok (.aload_n 0, 1) := by decide +kernel
theorem dX12_compileValue_16 : decode cX12_compileValue 16 = .ok (.aload_n 0, 1) := by decide +kernel
theorem dX12_compileValue_17 : decode cX12_compileValue 17 = .ok (.iconst 0, 1) := by decide +kernel
theorem dX12_compileValue_18 : decode cX12_compileValue 18 = .ok (.ldc_w 455, 3) := by decide +kernel
theorem dX12_compileValue_21 : decode cX12_compileValue 21 = .ok (.invokevirtual 404, 3) := by decide +kernel
theorem dX12_compileValue_24 : decode cX12_compileValue 24 = .ok (.invokevirtual 456, 3) := by decide +kernel
theorem dX12_compileValue_27 : decode cX12_compileValue 27 = .ok (.return_, 1) := by decide +kernel
theorem dX12_compileValue_28 : decode cX12_compileValue 28 = .ok (.iconst 0, 1) := by decide +kernel
theorem dX12_compileValue_29 : decode cX12_compileValue 29 = .ok (.istore_n 1, 1) := by decide +kernel
theorem dX12_compileValue_30 : decode cX12_compileValue 30 = .ok (.iload_n 1, 1) := by decide +kernel
theorem dX12_compileValue_31 : decode cX12_compileValue 31 = .ok (.aload_n 0, 1) := by decide +kernel
theorem dX12_compileValue_32 : decode cX12_compileValue 32 = .ok (.getfield 74, 3) := by decide +kernel
theorem dX12_compileValue_35 : decode cX12_compileValue 35 = .ok (.arraylength, 1) := by decide +kernel
theorem dX12_compileValue_36 : decode cX12_compileValue 36 = .ok (.if_icmp .ge 22, 3) := by decide +kernel
theorem dX12_compileValue_39 : decode cX12_compileValue 39 = .ok (.aload_n 0, 1) := by decide +kernel
theorem dX12_compileValue_40 : decode cX12_compileValue 40 = .ok (.aload_n 0, 1) := by decide +kernel
theorem dX12_compileValue_41 : decode cX12_compileValue 41 = .ok (.getfield 74, 3) := by decide +kernel
theorem dX12_compileValue_44 : decode cX12_compileValue 44 = .ok (.iload_n 1, 1) := by decide +kernel
theorem dX12_compileValue_45 : decode cX12_compileValue 45 = .ok (.aaload, 1) := by decide +kernel
theorem dX12_compileValue_46 : decode cX12_compileValue 46 = .ok (.invokevirtual 378, 3) := by decide +kernel
theorem dX12_compileValue_49 : decode cX12_compileValue 49 = .ok (.ifCond .ne 9, 3) := by decide +kernel
theorem dX12_compileValue_52 : decode cX12_compileValue 52 = .ok (.iinc 1 1, 3) := by decide +kernel
theorem dX12_compileValue_55 : decode cX12_compileValue 55 = .ok (.goto (-25), 3) := by decide +kernel
theorem dX12_compileValue_58 : decode cX12_compileValue 58 = .ok (.aload_n 0, 1) := by decide +kernel
theorem dX12_compileValue_59 : decode cX12_compileValue 59 = .ok (.iload_n 1, 1) := by decide +kernel
theorem dX12_compileValue_60 : decode cX12_compileValue 60 = .ok (.aload_n 0, 1) := by decide +kernel
theorem dX12_compileValue_61 : decode cX12_compileValue 61 = .ok (.getfield 74, 3) := by decide +kernel
theorem dX12_compileValue_64 : decode cX12_compileValue 64 = .ok (.arraylength, 1) := by decide +kernel
theorem dX12_compileValue_65 : decode cX12_compileValue 65 = .ok (.if_icmp .ge 7, 3) := by decide +kernel
theorem dX12_compileValue_68 : decode cX12_compileValue 68 = .ok (.iconst 1, 1) := by decide +kernel
theorem dX12_compileValue_69 : decode cX12_compileValue 69 = .ok (.goto 4, 3) := by decide +kernel
theorem dX12_compileValue_72 : decode cX12_compileValue 72 = .ok (.iconst 0, 1) := by decide +kernel
theorem dX12_compileValue_73 : decode cX12_compileValue 73 = .ok (.iconst 1, 1) := by decide +kernel
theorem dX12_compileValue_74 : decode cX12_compileValue 74 = .ok (.invokevirtual 382, 3) := by decide +kernel
theorem dX12_compileValue_77 : decode cX12_compileValue 77 = .ok (.aload_n 0, 1) := by decide +kernel
theorem dX12_compileValue_78 : decode cX12_compileValue 78 = .ok (.iconst (-1), 1) := by decide +kernel
theorem dX12_compileValue_79 : decode cX12_compileValue 79 = .ok (.iload_n 1, 1) := by decide +kernel
theorem dX12_compileValue_80 : decode cX12_compileValue 80 = .ok (.isub, 1) := by decide +kernel
theorem dX12_compileValue_81 : decode cX12_compileValue 81 = .ok (.invokevirtual 456, 3) := by decide +kernel
theorem dX12_compileValue_84 : decode cX12_compileValue 84 = .ok (.aload_n 0, 1) := by decide +kernel
theorem dX12_compileValue_85 : decode cX12_compileValue 85 = .ok (.invokevirtual 386, 3) := by decide +kernel
theorem dX12_compileValue_88 : decode cX12_compileValue 88 = .ok (.return_, 1) := by decide +kernel
theorem dX12_compileFactor_0 : decode cX12_compileFactor 0 = .ok (.aload_n 0, 1) := by decide +kernel
theorem dX12_compileFactor_1 : decode cX12_compileFactor 1 = .ok (.ldc_w 459, 3) := by decide +kernel
theorem dX12_compileFactor_4 : decode cX12_compileFactor 4 = .ok (.invokevirtual 378, 3) := by decide +kernel
theorem dX12_compileFactor_7 : decode cX12_compileFactor 7 = .ok (.ifCond .eq 37, 3) := by decide +kernel
theorem dX12_compileFactor_10 : decode cX12_compileFactor 10 = .ok (.aload_n 0, 1) := by decide +kernel
theorem dX12_compileFactor_11 : decode cX12_compileFactor 11 = .ok (.invokevirtual 461, 3) := by decide +kernel
theorem dX12_compileFactor_14 : decode cX12_compileFactor 14 = .ok (.aload_n 0, 1) := by decide +kernel
theorem dX12_compileFactor_15 : decode cX12_compileFactor 15 = .ok (.getfield 363, 3) := by decide +kernel
theorem dX12_compileFactor_18 : decode cX12_compileFactor 18 = .ok (.ifCond .ne 7, 3) := by decide +kernel
theorem dX12_compileFactor_21 : decode cX12_compileFactor 21 = .ok (.aload_n 0, 1) := by decide +kernel
theorem dX12_compileFactor_22 : decode cX12_compileFactor 22 = .ok (.invokevirtual 464, 3) := by decide +kernel
theorem dX12_compileFactor_25 : decode cX12_compileFactor 25 = .ok (.aload_n 0, 1) := by decide +kernel
theorem dX12_compileFactor_26 : decode cX12_compileFactor 26 = .ok (.bipush (-23), 2) := by decide +kernel
theorem dX12_compileFactor_28 : decode cX12_compileFactor 28 = .ok (.invokevirtual 456, 3) := by decide +kernel
theorem dX12_compileFactor_31 : decode cX12_compileFactor 31 = .ok (.aload_n 0, 1) := by decide +kernel
theorem dX12_compileFactor_32 : decode cX12_compileFactor 32 = .ok (.dup, 1) := by decide +kernel
theorem dX12_compileFactor_33 : decode cX12_compileFactor 33 = .ok (.getfield 366, 3) := by decide +kernel
theorem dX12_compileFactor_36 : decode cX12_compileFactor 36 = .ok (.iconst 1, 1) := by decide +kernel
theorem dX12_compileFactor_37 : decode cX12_compileFactor 37 = .ok (.isub, 1) := by decide +kernel
theorem dX12_compileFactor_38 : decode cX12_compileFactor 38 = .ok (.putfield 366, 3) := by decide +kernel
theorem dX12_compileFactor_41 : decode cX12_compileFactor 41 = .ok (.goto 119, 3) := by decide +kernel
theorem dX12_compileFactor_44 : decode cX12_compileFactor 44 = .ok (.aload_n 0, 1) := by decide +kernel
theorem dX12_compileFactor_45 : decode cX12_compileFactor 45 = .ok (.bipush 40, 2) := by decide +kernel
theorem dX12_compileFactor_47 : decode cX12_compileFactor 47 = .ok (.invokevirtual 389, 3) := by decide +kernel
theorem dX12_compileFactor_50 : decode cX12_compileFactor 50 = .ok (.ifCond .eq 37, 3) := by decide +kernel
theorem dX12_compileFactor_53 : decode cX12_compileFactor 53 = .ok (.aload_n 0, 1) := by decide +kernel
theorem dX12_compileFactor_54 : decode cX12_compileFactor 54 = .ok (.invokevirtual 461, 3) := by decide +kernel
theorem dX12_compileFactor_57 : decode cX12_compileFactor 57 = .ok (.aload_n 0, 1) := by decide +kernel
theorem dX12_compileFactor_58 : decode cX12_compileFactor 58 = .ok (.getfield 363, 3) := by decide +kernel
theorem dX12_compileFactor_61 : decode cX12_compileFactor 61 = .ok (.ifCond .ne 7, 3) := by decide +kernel
theorem dX12_compileFactor_64 : decode cX12_compileFactor 64 = .ok (.aload_n 0, 1) := by decide +kernel
theorem dX12_compileFactor_65 : decode cX12_compileFactor 65 = .ok (.invokevirtual 467, 3) := by decide +kernel
theorem dX12_compileFactor_68 : decode cX12_compileFactor 68 = .ok (.aload_n 0, 1) := by decide +kernel
theorem dX12_compileFactor_69 : decode cX12_compileFactor 69 = .ok (.bipush 41, 2) := by decide +kernel
theorem dX12_compileFactor_71 : decode cX12_compileFactor 71 = .ok (.invokevirtual 440, 3) := by decide +kernel
theorem dX12_compileFactor_74 : decode cX12_compileFactor 74 = .ok (.aload_n 0, 1) := by decide +kernel
theorem dX12_compileFactor_75 : decode cX12_compileFactor 75 = .ok (.dup, 1) := by decide +kernel
theorem dX12_compileFactor_76 : decode cX12_compileFactor 76 = .ok (.getfield 366, 3) := by decide +kernel
theorem dX12_compileFactor_79 : decode cX12_compileFactor 79 = .ok (.iconst 1, 1) := by decide +kernel
theorem dX12_compileFactor_80 : decode cX12_compileFactor 80 = .ok (.isub, 1) := by decide +kernel
theorem dX12_compileFactor_81 : decode cX12_compileFactor 81 = .ok (.putfield 366, 3) := by decide +kernel
theorem dX12_compileFactor_84 : decode cX12_compileFactor 84 = .ok (.goto 76, 3) := by decide +kernel
theorem dX12_compileFactor_87 : decode cX12_compileFactor 87 = .ok (.aload_n 0, 1) := by decide +kernel
theorem dX12_compileFactor_88 : decode cX12_compileFactor 88 = .ok (.invokevirtual 470, 3) := by decide +kernel
theorem dX12_compileFactor_91 : decode cX12_compileFactor 91 = .ok (.aload_n 0, 1) := by decide +kernel
theorem dX12_compileFactor_92 : decode cX12_compileFactor 92 = .ok (.bipush 60, 2) := by decide +kernel
theorem dX12_compileFactor_94 : decode cX12_compileFactor 94 = .ok (.invokevirtual 389, 3) := by decide +kernel
theorem dX12_compileFactor_97 : decode cX12_compileFactor 97 = .ok (.ifCond .eq 8, 3) := by decide +kernel
theorem dX12_compileFactor_100 : decode cX12_compileFactor 100 = .ok (.bipush (-20), 2) := by decide +kernel
theorem dX12_compileFactor_102 : decode cX12_compileFactor 102 = .ok (.goto 19, 3) := by decide +kernel
theorem dX12_compileFactor_105 : decode cX12_compileFactor 105 = .ok (.aload_n 0, 1) := by decide +kernel
theorem dX12_compileFactor_106 : decode cX12_compileFactor 106 = .ok (.bipush 61, 2) := by decide +kernel
theorem dX12_compileFactor_108 : decode cX12_compileFactor 108 = .ok (.invokevirtual 389, 3) := by decide +kernel
theorem dX12_compileFactor_111 : decode cX12_compileFactor 111 = .ok (.ifCond .eq 8, 3) := by decide +kernel
theorem dX12_compileFactor_114 : decode cX12_compileFactor 114 = .ok (.bipush (-21), 2) := by decide +kernel
theorem dX12_compileFactor_116 : decode cX12_compileFactor 116 = .ok (.goto 5, 3) := by decide +kernel
theorem dX12_compileFactor_119 : decode cX12_compileFactor 119 = .ok (.bipush (-22), 2) := by decide +kernel
theorem dX12_compileFactor_121 : decode cX12_compileFactor 121 = .ok (.istore_n 1, 1) := by decide +kernel
theorem dX12_compileFactor_122 : decode cX12_compileFactor 122 = .ok (.aload_n 0, 1) := by decide +kernel
theorem dX12_compileFactor_123 : decode cX12_compileFactor 123 = .ok (.iload_n 1, 1) := by decide +kernel
theorem dX12_compileFactor_124 : decode cX12_compileFactor 124 = .ok (.bipush (-22), 2) := by decide +kernel
theorem dX12_compileFactor_126 : decode cX12_compileFactor 126 = .ok (.if_icmp .ne 12, 3) := by decide +kernel
theorem dX12_compileFactor_129 : decode cX12_compileFactor 129 = .ok (.aload_n 0, 1) := by decide +kernel
theorem dX12_compileFactor_130 : decode cX12_compileFactor 130 = .ok (.bipush 62, 2) := by decide +kernel
theorem dX12_compileFactor_132 : decode cX12_compileFactor 132 = .ok (.invokevirtual 389, 3) := by decide +kernel
theorem dX12_compileFactor_135 : decode cX12_compileFactor 135 = .ok (.ifCond .eq 7, 3) := by decide +kernel
theorem dX12_compileFactor_138 : decode cX12_compileFactor 138 = .ok (.iconst 1, 1) := by decide +kernel
theorem dX12_compileFactor_139 : decode cX12_compileFactor 139 = .ok (.goto 4, 3) := by decide +kernel
theorem dX12_compileFactor_142 : decode cX12_compileFactor 142 = .ok (.iconst 0, 1) := by decide +kernel
theorem dX12_compileFactor_143 : decode cX12_compileFactor 143 = .ok (.iconst 1, 1) := by decide +kernel
theorem dX12_compileFactor_144 : decode cX12_compileFactor 144 = .ok (.invokevirtual 382, 3) := by decide +kernel
theorem dX12_compileFactor_147 : decode cX12_compileFactor 147 = .ok (.aload_n 0, 1) := by decide +kernel
theorem dX12_compileFactor_148 : decode cX12_compileFactor 148 = .ok (.invokevirtual 386, 3) := by decide +kernel
theorem dX12_compileFactor_151 : decode cX12_compileFactor 151 = .ok (.aload_n 0, 1) := by decide +kernel
theorem dX12_compileFactor_152 : decode cX12_compileFactor 152 = .ok (.invokevirtual 470, 3) := by decide +kernel
theorem dX12_compileFactor_155 : decode cX12_compileFactor 155 = .ok (.aload_n 0, 1) := by decide +kernel
theorem dX12_compileFactor_156 : decode cX12_compileFactor 156 = .ok (.iload_n 1, 1) := by decide +kernel
theorem dX12_compileFactor_157 : decode cX12_compileFactor 157 = .ok (.invokevirtual 456, 3) := by decide +kernel
theorem dX12_compileFactor_160 : decode cX12_compileFactor 160 = .ok (.return_, 1) := by decide +kernel
theorem dX12_compileConjunction_0 : decode cX12_compileConjunction 0 = .ok (.aload_n 0, 1) := by decide +kernel
theorem dX12_compileConjunction_1 : decode cX12_compileConjunction 1 = .ok (.invokevirtual 464, 3) := by decide +kernel
theorem dX12_compileConjunction_4 : decode cX12_compileConjunction 4 = .ok (.aload_n 0, 1) := by decide +kernel
theorem dX12_compileConjunction_5 : decode cX12_compileConjunction 5 = .ok (.ldc_w 473, 3) := by decide +kernel
theorem dX12_compileConjunction_8 : decode cX12_compileConjunction 8 = .ok (.invokevirtual 415, 3) := by decide +kernel
theorem dX12_compileConjunction_11 : decode cX12_compileConjunction 11 = .ok (.ifCond .eq 16, 3) := by decide +kernel
theorem dX12_compileConjunction_14 : decode cX12_compileConjunction 14 = .ok (.aload_n 0, 1) := by decide +kernel
theorem dX12_compileConjunction_15 : decode cX12_compileConjunction 15 = .ok (.invokevirtual 464, 3) := by decide +kernel
theorem dX12_compileConjunction_18 : decode cX12_compileConjunction 18 = .ok (.aload_n 0, 1) := by decide +kernel
theorem dX12_compileConjunction_19 : decode cX12_compileConjunction 19 = .ok (.bipush (-24), 2) := by decide +kernel
theorem dX12_compileConjunction_21 : decode cX12_compileConjunction 21 = .ok (.invokevirtual 456, 3) := by decide +kernel
theorem dX12_compileConjunction_24 : decode cX12_compileConjunction 24 = .ok (.goto (-20), 3) := by decide +kernel
theorem dX12_compileConjunction_27 : decode cX12_compileConjunction 27 = .ok (.return_, 1) := by decide +kernel
theorem dX12_compileTest_0 : decode cX12_compileTest 0 = .ok (.aload_n 0, 1) := by decide +kernel
theorem dX12_compileTest_1 : decode cX12_compileTest 1 = .ok (.invokevirtual 475, 3) := by decide +kernel
theorem dX12_compileTest_4 : decode cX12_compileTest 4 = .ok (.aload_n 0, 1) := by decide +kernel
theorem dX12_compileTest_5 : decode cX12_compileTest 5 = .ok (.ldc_w 478, 3) := by decide +kernel
theorem dX12_compileTest_8 : decode cX12_compileTest 8 = .ok (.invokevirtual 415, 3) := by decide +kernel
theorem dX12_compileTest_11 : decode cX12_compileTest 11 = .ok (.ifCond .eq 16, 3) := by decide +kernel
theorem dX12_compileTest_14 : decode cX12_compileTest 14 = .ok (.aload_n 0, 1) := by decide +kernel
theorem dX12_compileTest_15 : decode cX12_compileTest 15 = .ok (.invokevirtual 475, 3) := by decide +kernel
theorem dX12_compileTest_18 : decode cX12_compileTest 18 = .ok (.aload_n 0, 1) := by decide +kernel
theorem dX12_compileTest_19 : decode cX12_compileTest 19 = .ok (.bipush (-25), 2) := by decide +kernel
theorem dX12_compileTest_21 : decode cX12_compileTest 21 = .ok (.invokevirtual 456, 3) := by decide +kernel
theorem dX12_compileTest_24 : decode cX12_compileTest 24 = .ok (.goto (-20), 3) := by decide +kernel
theorem dX12_compileTest_27 : decode cX12_compileTest 27 = .ok (.return_, 1) := by decide +kernel
theorem dX12_operate_0 : decode cX12_operate 0 = .ok (.iload_n 0, 1) := by decide +kernel
theorem dX12_operate_1 : decode cX12_operate 1 = .ok (.tableswitch 75 (-24) (-20) #[71, 75, 59, 47, 35], 35) := by decide +kernel
theorem dX12_operate_36 : decode cX12_operate 36 = .ok (.lload_n 1, 1) := by decide +kernel
theorem dX12_operate_37 : decode cX12_operate 37 = .ok (.lload_n 3, 1) := by decide +kernel
theorem dX12_operate_38 : decode cX12_operate 38 = .ok (.lcmp, 1) := by decide +kernel
theorem dX12_operate_39 : decode cX12_operate 39 = .ok (.ifCond .ge 7, 3) := by decide +kernel
theorem dX12_operate_42 : decode cX12_operate 42 = .ok (.lconst 1, 1) := by decide +kernel
theorem dX12_operate_43 : decode cX12_operate 43 = .ok (.goto 4, 3) := by decide +kernel
theorem dX12_operate_46 : decode cX12_operate 46 = .ok (.lconst 0, 1) := by decide +kernel
theorem dX12_operate_47 : decode cX12_operate 47 = .ok (.lreturn, 1) := by decide +kernel
theorem dX12_operate_48 : decode cX12_operate 48 = .ok (.lload_n 1, 1) := by decide +kernel
theorem dX12_operate_49 : decode cX12_operate 49 = .ok (.lload_n 3, 1) := by decide +kernel
theorem dX12_operate_50 : decode cX12_operate 50 = .ok (.lcmp, 1) := by decide +kernel
theorem dX12_operate_51 : decode cX12_operate 51 = .ok (.ifCond .ne 7, 3) := by decide +kernel
theorem dX12_operate_54 : decode cX12_operate 54 = .ok (.lconst 1, 1) := by decide +kernel
theorem dX12_operate_55 : decode cX12_operate 55 = .ok (.goto 4, 3) := by decide +kernel
theorem dX12_operate_58 : decode cX12_operate 58 = .ok (.lconst 0, 1) := by decide +kernel
theorem dX12_operate_59 : decode cX12_operate 59 = .ok (.lreturn, 1) := by decide +kernel
theorem dX12_operate_60 : decode cX12_operate 60 = .ok (.lload_n 1, 1) := by decide +kernel
theorem dX12_operate_61 : decode cX12_operate 61 = .ok (.lload_n 3, 1) := by decide +kernel
theorem dX12_operate_62 : decode cX12_operate 62 = .ok (.lcmp, 1) := by decide +kernel
theorem dX12_operate_63 : decode cX12_operate 63 = .ok (.ifCond .le 7, 3) := by decide +kernel
theorem dX12_operate_66 : decode cX12_operate 66 = .ok (.lconst 1, 1) := by decide +kernel
theorem dX12_operate_67 : decode cX12_operate 67 = .ok (.goto 4, 3) := by decide +kernel
theorem dX12_operate_70 : decode cX12_operate 70 = .ok (.lconst 0, 1) := by decide +kernel
theorem dX12_operate_71 : decode cX12_operate 71 = .ok (.lreturn, 1) := by decide +kernel
theorem dX12_operate_72 : decode cX12_operate 72 = .ok (.lload_n 1, 1) := by decide +kernel
theorem dX12_operate_73 : decode cX12_operate 73 = .ok (.lload_n 3, 1) := by decide +kernel
theorem dX12_operate_74 : decode cX12_operate 74 = .ok (.land, 1) := by decide +kernel
theorem dX12_operate_75 : decode cX12_operate 75 = .ok (.lreturn, 1) := by decide +kernel
theorem dX12_operate_76 : decode cX12_operate 76 = .ok (.lload_n 1, 1) := by decide +kernel
theorem dX12_operate_77 : decode cX12_operate 77 = .ok (.lload_n 3, 1) := by decide +kernel
theorem dX12_operate_78 : decode cX12_operate 78 = .ok (.lor, 1) := by decide +kernel
theorem dX12_operate_79 : decode cX12_operate 79 = .ok (.lreturn, 1) := by decide +kernel
theorem dX12_property_0 : decode cX12_property 0 = .ok (.iload_n 2, 1) := by decide +kernel
theorem dX12_property_1 : decode cX12_property 1 = .ok (.tableswitch 118 0 7 #[47, 49, 56, 63, 69, 76, 104, 112], 47) := by decide +kernel
theorem dX12_property_48 : decode cX12_property 48 = .ok (.iload_n 1, 1) := by decide +kernel
theorem dX12_property_49 : decode cX12_property 49 = .ok (.ireturn, 1) := by decide +kernel
theorem dX12_property_50 : decode cX12_property 50 = .ok (.aload_n 0, 1) := by decide +kernel
theorem dX12_property_51 : decode cX12_property 51 = .ok (.iload_n 1, 1) := by decide +kernel
theorem dX12_property_52 : decode cX12_property 52 = .ok (.iconst 0, 1) := by decide +kernel
theorem dX12_property_53 : decode cX12_property 53 = .ok (.invokevirtual 119, 3) := by decide +kernel
theorem dX12_property_56 : decode cX12_property 56 = .ok (.ireturn, 1) := by decide +kernel
theorem dX12_property_57 : decode cX12_property 57 = .ok (.aload_n 0, 1) := by decide +kernel
theorem dX12_property_58 : decode cX12_property 58 = .ok (.iload_n 1, 1) := by decide +kernel
theorem dX12_property_59 : decode cX12_property 59 = .ok (.iconst 1, 1) := by decide +kernel
theorem dX12_property_60 : decode cX12_property 60 = .ok (.invokevirtual 119, 3) := by decide +kernel
theorem dX12_property_63 : decode cX12_property 63 = .ok (.ireturn, 1) := by decide +kernel
theorem dX12_property_64 : decode cX12_property 64 = .ok (.aload_n 0, 1) := by decide +kernel
theorem dX12_property_65 : decode cX12_property 65 = .ok (.iload_n 1, 1) := by decide +kernel
theorem dX12_property_66 : decode cX12_property 66 = .ok (.invokevirtual 155, 3) := by decide +kernel
theorem dX12_property_69 : decode cX12_property 69 = .ok (.ireturn, 1) := by decide +kernel
theorem dX12_property_70 : decode cX12_property 70 = .ok (.aload_n 0, 1) := by decide +kernel
theorem dX12_property_71 : decode cX12_property 71 = .ok (.iload_n 1, 1) := by decide +kernel
theorem dX12_property_72 : decode cX12_property 72 = .ok (.iconst 3, 1) := by decide +kernel
theorem dX12_property_73 : decode cX12_property 73 = .ok (.invokevirtual 119, 3) := by decide +kernel
theorem dX12_property_76 : decode cX12_property 76 = .ok (.ireturn, 1) := by decide +kernel
theorem dX12_property_77 : decode cX12_property 77 = .ok (.aload_n 0, 1) := by decide +kernel
theorem dX12_property_78 : decode cX12_property 78 = .ok (.iload_n 1, 1) := by decide +kernel
theorem dX12_property_79 : decode cX12_property 79 = .ok (.iconst 4, 1) := by decide +kernel
theorem dX12_property_80 : decode cX12_property 80 = .ok (.invokevirtual 119, 3) := by decide +kernel
theorem dX12_property_83 : decode cX12_property 83 = .ok (.iconst (-1), 1) := by decide +kernel
theorem dX12_property_84 : decode cX12_property 84 = .ok (.if_icmp .ne 7, 3) := by decide +kernel
theorem dX12_property_87 : decode cX12_property 87 = .ok (.iconst 0, 1) := by decide +kernel
theorem dX12_property_88 : decode cX12_property 88 = .ok (.goto 16, 3) := by decide +kernel
theorem dX12_property_91 : decode cX12_property 91 = .ok (.aload_n 0, 1) := by decide +kernel
theorem dX12_property_92 : decode cX12_property 92 = .ok (.iload_n 1, 1) := by decide +kernel
theorem dX12_property_93 : decode cX12_property 93 = .ok (.invokevirtual 125, 3) := by decide +kernel
theorem dX12_property_96 : decode cX12_property 96 = .ok (.ifCond .eq 7, 3) := by decide +kernel
theorem dX12_property_99 : decode cX12_property 99 = .ok (.iconst 2, 1) := by decide +kernel
theorem dX12_property_100 : decode cX12_property 100 = .ok (.goto 4, 3) := by decide +kernel
theorem dX12_property_103 : decode cX12_property 103 = .ok (.iconst 1, 1) := by decide +kernel
theorem dX12_property_104 : decode cX12_property 104 = .ok (.ireturn, 1) := by decide +kernel
theorem dX12_property_105 : decode cX12_property 105 = .ok (.aload_n 0, 1) := by decide +kernel
theorem dX12_property_106 : decode cX12_property 106 = .ok (.iload_n 1, 1) := by decide +kernel
theorem dX12_property_107 : decode cX12_property 107 = .ok (.bipush 7, 2) := by decide +kernel
theorem dX12_property_109 : decode cX12_property 109 = .ok (.invokevirtual 119, 3) := by decide +kernel
theorem dX12_property_112 : decode cX12_property 112 = .ok (.ireturn, 1) := by decide +kernel
theorem dX12_property_113 : decode cX12_property 113 = .ok (.aload_n 0, 1) := by decide +kernel
theorem dX12_property_114 : decode cX12_property 114 = .ok (.iload_n 1, 1) := by decide +kernel
theorem dX12_property_115 : decode cX12_property 115 = .ok (.invokevirtual 259, 3) := by decide +kernel
theorem dX12_property_118 : decode cX12_property 118 = .ok (.ireturn, 1) := by decide +kernel
theorem dX12_property_119 : decode cX12_property 119 = .ok (.aload_n 0, 1) := by decide +kernel
theorem dX12_property_120 : decode cX12_property 120 = .ok (.iload_n 1, 1) := by decide +kernel
theorem dX12_property_121 : decode cX12_property 121 = .ok (.invokevirtual 171, 3) := by decide +kernel
theorem dX12_property_124 : decode cX12_property 124 = .ok (.ireturn, 1) := by decide +kernel
theorem dX12_holdsFor_0 : decode cX12_holdsFor 0 = .ok (.iconst 0, 1) := by decide +kernel
theorem dX12_holdsFor_1 : decode cX12_holdsFor 1 = .ok (.istore_n 2, 1) := by decide +kernel
theorem dX12_holdsFor_2 : decode cX12_holdsFor 2 = .ok (.iconst 0, 1) := by decide +kernel
theorem dX12_holdsFor_3 : decode cX12_holdsFor 3 = .ok (.istore_n 3, 1) := by decide +kernel
theorem dX12_holdsFor_4 : decode cX12_holdsFor 4 = .ok (.iload_n 3, 1) := by decide +kernel
theorem dX12_holdsFor_5 : decode cX12_holdsFor 5 = .ok (.aload_n 0, 1) := by decide +kernel
theorem dX12_holdsFor_6 : decode cX12_holdsFor 6 = .ok (.getfield 452, 3) := by decide +kernel
theorem dX12_holdsFor_9 : decode cX12_holdsFor 9 = .ok (.if_icmp .ge 115, 3) := by decide +kernel
theorem dX12_holdsFor_12 : decode cX12_holdsFor 12 = .ok (.aload_n 0, 1) := by decide +kernel
theorem dX12_holdsFor_13 : decode cX12_holdsFor 13 = .ok (.getfield 78, 3) := by decide +kernel
theorem dX12_holdsFor_16 : decode cX12_holdsFor 16 = .ok (.iload_n 3, 1) := by decide +kernel
theorem dX12_holdsFor_17 : decode cX12_holdsFor 17 = .ok (.iaload, 1) := by decide +kernel
theorem dX12_holdsFor_18 : decode cX12_holdsFor 18 = .ok (.istore 4, 2) := by decide +kernel
theorem dX12_holdsFor_20 : decode cX12_holdsFor 20 = .ok (.iload 4, 2) := by decide +kernel
theorem dX12_holdsFor_22 : decode cX12_holdsFor 22 = .ok (.bipush (-23), 2) := by decide +kernel
theorem dX12_holdsFor_24 : decode cX12_holdsFor 24 = .ok (.if_icmp .ne 24, 3) := by decide +kernel
theorem dX12_holdsFor_27 : decode cX12_holdsFor 27 = .ok (.aload_n 0, 1) := by decide +kernel
theorem dX12_holdsFor_28 : decode cX12_holdsFor 28 = .ok (.getfield 81, 3) := by decide +kernel
theorem dX12_holdsFor_31 : decode cX12_holdsFor 31 = .ok (.iload_n 2, 1) := by decide +kernel
theorem dX12_holdsFor_32 : decode cX12_holdsFor 32 = .ok (.iconst 1, 1) := by decide +kernel
theorem dX12_holdsFor_33 : decode cX12_holdsFor 33 = .ok (.isub, 1) := by decide +kernel
theorem dX12_holdsFor_34 : decode cX12_holdsFor 34 = .ok (.lconst 1, 1) := by decide +kernel
theorem dX12_holdsFor_35 : decode cX12_holdsFor 35 = .ok (.aload_n 0, 1) := by decide +kernel
theorem dX12_holdsFor_36 : decode cX12_holdsFor 36 = .ok (.getfield 81, 3) := by decide +kernel
theorem dX12_holdsFor_39 : decode cX12_holdsFor 39 = .ok (.iload_n 2, 1) := by decide +kernel
theorem dX12_holdsFor_40 : decode cX12_holdsFor 40 = .ok (.iconst 1, 1) := by decide +kernel
theorem dX12_holdsFor_41 : decode cX12_holdsFor 41 = .ok (.isub, 1) := by decide +kernel
theorem dX12_holdsFor_42 : decode cX12_holdsFor 42 = .ok (.laload, 1) := by decide +kernel
theorem dX12_holdsFor_43 : decode cX12_holdsFor 43 = .ok (.lsub, 1) := by decide +kernel
theorem dX12_holdsFor_44 : decode cX12_holdsFor 44 = .ok (.lastore, 1) := by decide +kernel
theorem dX12_holdsFor_45 : decode cX12_holdsFor 45 = .ok (.goto 73, 3) := by decide +kernel
theorem dX12_holdsFor_48 : decode cX12_holdsFor 48 = .ok (.iload 4, 2) := by decide +kernel
theorem dX12_holdsFor_50 : decode cX12_holdsFor 50 = .ok (.bipush (-20), 2) := by decide +kernel
theorem dX12_holdsFor_52 : decode cX12_holdsFor 52 = .ok (.if_icmp .le 36, 3) := by decide +kernel
theorem dX12_holdsFor_55 : decode cX12_holdsFor 55 = .ok (.aload_n 0, 1) := by decide +kernel
theorem dX12_holdsFor_56 : decode cX12_holdsFor 56 = .ok (.getfield 81, 3) := by decide +kernel
theorem dX12_holdsFor_59 : decode cX12_holdsFor 59 = .ok (.iload_n 2, 1) := by decide +kernel
theorem dX12_holdsFor_60 : decode cX12_holdsFor 60 = .ok (.iload 4, 2) := by decide +kernel
theorem dX12_holdsFor_62 : decode cX12_holdsFor 62 = .ok (.ifCond .lt 9, 3) := by decide +kernel
theorem dX12_holdsFor_65 : decode cX12_holdsFor 65 = .ok (.iload 4, 2) := by decide +kernel
theorem dX12_holdsFor_67 : decode cX12_holdsFor 67 = .ok (.i2l, 1) := by decide +kernel
theorem dX12_holdsFor_68 : decode cX12_holdsFor 68 = .ok (.goto 13, 3) := by decide +kernel
theorem dX12_holdsFor_71 : decode cX12_holdsFor 71 = .ok (.aload_n 0, 1) := by decide +kernel
theorem dX12_holdsFor_72 : decode cX12_holdsFor 72 = .ok (.iload_n 1, 1) := by decide +kernel
theorem dX12_holdsFor_73 : decode cX12_holdsFor 73 = .ok (.iconst (-1), 1) := by decide +kernel
theorem dX12_holdsFor_74 : decode cX12_holdsFor 74 = .ok (.iload 4, 2) := by decide +kernel
theorem dX12_holdsFor_76 : decode cX12_holdsFor 76 = .ok (.isub, 1) := by decide +kernel
theorem dX12_holdsFor_77 : decode cX12_holdsFor 77 = .ok (.invokevirtual 480, 3) := by decide +kernel
theorem dX12_holdsFor_80 : decode cX12_holdsFor 80 = .ok (.i2l, 1) := by decide +kernel
theorem dX12_holdsFor_81 : decode cX12_holdsFor 81 = .ok (.lastore, 1) := by decide +kernel
theorem dX12_holdsFor_82 : decode cX12_holdsFor 82 = .ok (.iinc 2 1, 3) := by decide +kernel
theorem dX12_holdsFor_85 : decode cX12_holdsFor 85 = .ok (.goto 33, 3) := by decide +kernel
theorem dX12_holdsFor_88 : decode cX12_holdsFor 88 = .ok (.iinc 2 (-1), 3) := by decide +kernel
theorem dX12_holdsFor_91 : decode cX12_holdsFor 91 = .ok (.aload_n 0, 1) := by decide +kernel
theorem dX12_holdsFor_92 : decode cX12_holdsFor 92 = .ok (.getfield 81, 3) := by decide +kernel
theorem dX12_holdsFor_95 : decode cX12_holdsFor 95 = .ok (.iload_n 2, 1) := by decide +kernel
theorem dX12_holdsFor_96 : decode cX12_holdsFor 96 = .ok (.iconst 1, 1) := by decide +kernel
theorem dX12_holdsFor_97 : decode cX12_holdsFor 97 = .ok (.isub, 1) := by decide +kernel
theorem dX12_holdsFor_98 : decode cX12_holdsFor 98 = .ok (.iload 4, 2) := by decide +kernel
theorem dX12_holdsFor_100 : decode cX12_holdsFor 100 = .ok (.aload_n 0, 1) := by decide +kernel
theorem dX12_holdsFor_101 : decode cX12_holdsFor 101 = .ok (.getfield 81, 3) := by decide +kernel
theorem dX12_holdsFor_104 : decode cX12_holdsFor 104 = .ok (.iload_n 2, 1) := by decide +kernel
theorem dX12_holdsFor_105 : decode cX12_holdsFor 105 = .ok (.iconst 1, 1) := by decide +kernel
theorem dX12_holdsFor_106 : decode cX12_holdsFor 106 = .ok (.isub, 1) := by decide +kernel
theorem dX12_holdsFor_107 : decode cX12_holdsFor 107 = .ok (.laload, 1) := by decide +kernel
theorem dX12_holdsFor_108 : decode cX12_holdsFor 108 = .ok (.aload_n 0, 1) := by decide +kernel
theorem dX12_holdsFor_109 : decode cX12_holdsFor 109 = .ok (.getfield 81, 3) := by decide +kernel
theorem dX12_holdsFor_112 : decode cX12_holdsFor 112 = .ok (.iload_n 2, 1) := by decide +kernel
theorem dX12_holdsFor_113 : decode cX12_holdsFor 113 = .ok (.laload, 1) := by decide +kernel
theorem dX12_holdsFor_114 : decode cX12_holdsFor 114 = .ok (.invokestatic 483, 3) := by decide +kernel
theorem dX12_holdsFor_117 : decode cX12_holdsFor 117 = .ok (.lastore, 1) := by decide +kernel
theorem dX12_holdsFor_118 : decode cX12_holdsFor 118 = .ok (.iinc 3 1, 3) := by decide +kernel
theorem dX12_holdsFor_121 : decode cX12_holdsFor 121 = .ok (.goto (-117), 3) := by decide +kernel
theorem dX12_holdsFor_124 : decode cX12_holdsFor 124 = .ok (.aload_n 0, 1) := by decide +kernel
theorem dX12_holdsFor_125 : decode cX12_holdsFor 125 = .ok (.getfield 81, 3) := by decide +kernel
theorem dX12_holdsFor_128 : decode cX12_holdsFor 128 = .ok (.iconst 0, 1) := by decide +kernel
theorem dX12_holdsFor_129 : decode cX12_holdsFor 129 = .ok (.laload, 1) := by decide +kernel
theorem dX12_holdsFor_130 : decode cX12_holdsFor 130 = .ok (.lconst 1, 1) := by decide +kernel
theorem dX12_holdsFor_131 : decode cX12_holdsFor 131 = .ok (.lcmp, 1) := by decide +kernel
theorem dX12_holdsFor_132 : decode cX12_holdsFor 132 = .ok (.ifCond .ne 7, 3) := by decide +kernel
theorem dX12_holdsFor_135 : decode cX12_holdsFor 135 = .ok (.iconst 1, 1) := by decide +kernel
theorem dX12_holdsFor_136 : decode cX12_holdsFor 136 = .ok (.goto 4, 3) := by decide +kernel
theorem dX12_holdsFor_139 : decode cX12_holdsFor 139 = .ok (.iconst 0, 1) := by decide +kernel
theorem dX12_holdsFor_140 : decode cX12_holdsFor 140 = .ok (.ireturn, 1) := by decide +kernel
theorem dX12_query_0 : decode cX12_query 0 = .ok (.aload_n 0, 1) := by decide +kernel
theorem dX12_query_1 : decode cX12_query 1 = .ok (.iconst 0, 1) := by decide +kernel
theorem dX12_query_2 : decode cX12_query 2 = .ok (.putfield 89, 3) := by decide +kernel
theorem dX12_query_5 : decode cX12_query 5 = .ok (.iload_n 1, 1) := by decide +kernel
theorem dX12_query_6 : decode cX12_query 6 = .ok (.iconst 0, 1) := by decide +kernel
theorem dX12_query_7 : decode cX12_query 7 = .ok (.aload_n 0, 1) := by decide +kernel
theorem dX12_query_8 : decode cX12_query 8 = .ok (.getfield 339, 3) := by decide +kernel
theorem dX12_query_11 : decode cX12_query 11 = .ok (.sipush 200, 3) := by decide +kernel
theorem dX12_query_14 : decode cX12_query 14 = .ok (.invokestatic 164, 3) := by decide +kernel
theorem dX12_query_17 : decode cX12_query 17 = .ok (.invokestatic 109, 3) := by decide +kernel
theorem dX12_query_20 : decode cX12_query 20 = .ok (.ifCond .ne 9, 3) := by decide +kernel
theorem dX12_query_23 : decode cX12_query 23 = .ok (.aload_n 0, 1) := by decide +kernel
theorem dX12_query_24 : decode cX12_query 24 = .ok (.iconst 1, 1) := by decide +kernel
theorem dX12_query_25 : decode cX12_query 25 = .ok (.invokevirtual 238, 3) := by decide +kernel
theorem dX12_query_28 : decode cX12_query 28 = .ok (.ireturn, 1) := by decide +kernel
theorem dX12_query_29 : decode cX12_query 29 = .ok (.aload_n 0, 1) := by decide +kernel
theorem dX12_query_30 : decode cX12_query 30 = .ok (.iconst 0, 1) := by decide +kernel
theorem dX12_query_31 : decode cX12_query 31 = .ok (.putfield 452, 3) := by decide +kernel
theorem dX12_query_34 : decode cX12_query 34 = .ok (.aload_n 0, 1) := by decide +kernel
theorem dX12_query_35 : decode cX12_query 35 = .ok (.iload_n 1, 1) := by decide +kernel
theorem dX12_query_36 : decode cX12_query 36 = .ok (.invokevirtual 443, 3) := by decide +kernel
theorem dX12_query_39 : decode cX12_query 39 = .ok (.aload_n 0, 1) := by decide +kernel
theorem dX12_query_40 : decode cX12_query 40 = .ok (.ldc_w 487, 3) := by decide +kernel
theorem dX12_query_43 : decode cX12_query 43 = .ok (.invokevirtual 378, 3) := by decide +kernel
theorem dX12_query_46 : decode cX12_query 46 = .ok (.istore_n 2, 1) := by decide +kernel
theorem dX12_query_47 : decode cX12_query 47 = .ok (.aload_n 0, 1) := by decide +kernel
theorem dX12_query_48 : decode cX12_query 48 = .ok (.iload_n 2, 1) := by decide +kernel
theorem dX12_query_49 : decode cX12_query 49 = .ok (.ifCond .ne 13, 3) := by decide +kernel
theorem dX12_query_52 : decode cX12_query 52 = .ok (.aload_n 0, 1) := by decide +kernel
theorem dX12_query_53 : decode cX12_query 53 = .ok (.ldc_w 489, 3) := by decide +kernel
theorem dX12_query_56 : decode cX12_query 56 = .ok (.invokevirtual 378, 3) := by decide +kernel
theorem dX12_query_59 : decode cX12_query 59 = .ok (.ifCond .eq 7, 3) := by decide +kernel
theorem dX12_query_62 : decode cX12_query 62 = .ok (.iconst 1, 1) := by decide +kernel
theorem dX12_query_63 : decode cX12_query 63 = .ok (.goto 4, 3) := by decide +kernel
theorem dX12_query_66 : decode cX12_query 66 = .ok (.iconst 0, 1) := by decide +kernel
theorem dX12_query_67 : decode cX12_query 67 = .ok (.iconst 1, 1) := by decide +kernel
theorem dX12_query_68 : decode cX12_query 68 = .ok (.invokevirtual 382, 3) := by decide +kernel
theorem dX12_query_71 : decode cX12_query 71 = .ok (.aload_n 0, 1) := by decide +kernel
theorem dX12_query_72 : decode cX12_query 72 = .ok (.invokevirtual 386, 3) := by decide +kernel
theorem dX12_query_75 : decode cX12_query 75 = .ok (.aload_n 0, 1) := by decide +kernel
theorem dX12_query_76 : decode cX12_query 76 = .ok (.invokevirtual 467, 3) := by decide +kernel
theorem dX12_query_79 : decode cX12_query 79 = .ok (.aload_n 0, 1) := by decide +kernel
theorem dX12_query_80 : decode cX12_query 80 = .ok (.aload_n 0, 1) := by decide +kernel
theorem dX12_query_81 : decode cX12_query 81 = .ok (.getfield 363, 3) := by decide +kernel
theorem dX12_query_84 : decode cX12_query 84 = .ok (.ifCond .ne 10, 3) := by decide +kernel
theorem dX12_query_87 : decode cX12_query 87 = .ok (.aload_n 0, 1) := by decide +kernel
theorem dX12_query_88 : decode cX12_query 88 = .ok (.getfield 354, 3) := by decide +kernel
theorem dX12_query_91 : decode cX12_query 91 = .ok (.ifCond .ne 7, 3) := by decide +kernel
theorem dX12_query_94 : decode cX12_query 94 = .ok (.iconst 1, 1) := by decide +kernel
theorem dX12_query_95 : decode cX12_query 95 = .ok (.goto 4, 3) := by decide +kernel
theorem dX12_query_98 : decode cX12_query 98 = .ok (.iconst 0, 1) := by decide +kernel
theorem dX12_query_99 : decode cX12_query 99 = .ok (.iconst 1, 1) := by decide +kernel
theorem dX12_query_100 : decode cX12_query 100 = .ok (.invokevirtual 382, 3) := by decide +kernel
theorem dX12_query_103 : decode cX12_query 103 = .ok (.aload_n 0, 1) := by decide +kernel
theorem dX12_query_104 : decode cX12_query 104 = .ok (.invokevirtual 449, 3) := by decide +kernel
theorem dX12_query_107 : decode cX12_query 107 = .ok (.ifCond .eq 12, 3) := by decide +kernel
theorem dX12_query_110 : decode cX12_query 110 = .ok (.ldc_w 491, 3) := by decide +kernel
theorem dX12_query_113 : decode cX12_query 113 = .ok (.aload_n 0, 1) := by decide +kernel
theorem dX12_query_114 : decode cX12_query 114 = .ok (.getfield 363, 3) := by decide +kernel
theorem dX12_query_117 : decode cX12_query 117 = .ok (.isub, 1) := by decide +kernel
theorem dX12_query_118 : decode cX12_query 118 = .ok (.ireturn, 1) := by decide +kernel
theorem dX12_query_119 : decode cX12_query 119 = .ok (.iconst 0, 1) := by decide +kernel
theorem dX12_query_120 : decode cX12_query 120 = .ok (.istore_n 3, 1) := by decide +kernel
theorem dX12_query_121 : decode cX12_query 121 = .ok (.aload_n 0, 1) := by decide +kernel
theorem dX12_query_122 : decode cX12_query 122 = .ok (.invokevirtual 244, 3) := by decide +kernel
theorem dX12_query_125 : decode cX12_query 125 = .ok (.iconst 0, 1) := by decide +kernel
theorem dX12_query_126 : decode cX12_query 126 = .ok (.istore 4, 2) := by decide +kernel
theorem dX12_query_128 : decode cX12_query 128 = .ok (.iload 4, 2) := by decide +kernel
theorem dX12_query_130 : decode cX12_query 130 = .ok (.aload_n 0, 1) := by decide +kernel
theorem dX12_query_131 : decode cX12_query 131 = .ok (.invokevirtual 113, 3) := by decide +kernel
theorem dX12_query_134 : decode cX12_query 134 = .ok (.if_icmp .ge 31, 3) := by decide +kernel
theorem dX12_query_137 : decode cX12_query 137 = .ok (.aload_n 0, 1) := by decide +kernel
theorem dX12_query_138 : decode cX12_query 138 = .ok (.iload 4, 2) := by decide +kernel
theorem dX12_query_140 : decode cX12_query 140 = .ok (.invokevirtual 492, 3) := by decide +kernel
theorem dX12_query_143 : decode cX12_query 143 = .ok (.ifCond .ne 6, 3) := by decide +kernel
theorem dX12_query_146 : decode cX12_query 146 = .ok (.goto 13, 3) := by decide +kernel
theorem dX12_query_149 : decode cX12_query 149 = .ok (.iload_n 2, 1) := by decide +kernel
theorem dX12_query_150 : decode cX12_query 150 = .ok (.ifCond .eq 6, 3) := by decide +kernel
theorem dX12_query_153 : decode cX12_query 153 = .ok (.iload 4, 2) := by decide +kernel
theorem dX12_query_155 : decode cX12_query 155 = .ok (.ireturn, 1) := by decide +kernel
theorem dX12_query_156 : decode cX12_query 156 = .ok (.iinc 3 1, 3) := by decide +kernel
theorem dX12_query_159 : decode cX12_query 159 = .ok (.iinc 4 1, 3) := by decide +kernel
theorem dX12_query_162 : decode cX12_query 162 = .ok (.goto (-34), 3) := by decide +kernel
theorem dX12_query_165 : decode cX12_query 165 = .ok (.iload_n 2, 1) := by decide +kernel
theorem dX12_query_166 : decode cX12_query 166 = .ok (.ifCond .eq 7, 3) := by decide +kernel
theorem dX12_query_169 : decode cX12_query 169 = .ok (.iconst (-1), 1) := by decide +kernel
theorem dX12_query_170 : decode cX12_query 170 = .ok (.goto 4, 3) := by decide +kernel
theorem dX12_query_173 : decode cX12_query 173 = .ok (.iload_n 3, 1) := by decide +kernel
theorem dX12_query_174 : decode cX12_query 174 = .ok (.ireturn, 1) := by decide +kernel
