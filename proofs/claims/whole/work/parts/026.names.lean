theorem dX7_statement_352 : decode cX7_statement 352 = .ok (.getfield 123, 3) := by decide +kernel
theorem dX7_statement_355 : decode cX7_statement 355 = .ok (.aload_n 0, 1) := by decide +kernel
theorem dX7_statement_356 : decode cX7_statement 356 = .ok (.getfield 126, 3) := by decide +kernel
theorem dX7_statement_359 : decode cX7_statement 359 = .ok (.if_icmp .eq 17, 3) := by decide +kernel
theorem dX7_statement_362 : decode cX7_statement 362 = .ok (.aload_n 0, 1) := by decide +kernel
theorem dX7_statement_363 : decode cX7_statement 363 = .ok (.getfield 20, 3) := by decide +kernel
theorem dX7_statement_366 : decode cX7_statement 366 = .ok (.aload_n 0, 1) := by decide +kernel
theorem dX7_statement_367 : decode cX7_statement 367 = .ok (.getfield 123, 3) := by decide +kernel
theorem dX7_statement_370 : decode cX7_statement 370 = .ok (.baload, 1) := by decide +kernel
theorem dX7_statement_371 : decode cX7_statement 371 = .ok (.bipush 59, 2) := by decide +kernel
theorem dX7_statement_373 : decode cX7_statement 373 = .ok (.if_icmp .eq 5, 3) := by decide +kernel
theorem dX7_statement_376 : decode cX7_statement 376 = .ok (.iconst 0, 1) := by decide +kernel
theorem dX7_statement_377 : decode cX7_statement 377 = .ok (.ireturn, 1) := by decide +kernel
theorem dX7_statement_378 : decode cX7_statement 378 = .ok (.aload_n 0, 1) := by decide +kernel
theorem dX7_statement_379 : decode cX7_statement 379 = .ok (.dup, 1) := by decide +kernel
theorem dX7_statement_380 : decode cX7_statement 380 = .ok (.getfield 123, 3) := by decide +kernel
theorem dX7_statement_383 : decode cX7_statement 383 = .ok (.iconst 1, 1) := by decide +kernel
theorem dX7_statement_384 : decode cX7_statement 384 = .ok (.iadd, 1) := by decide +kernel
theorem dX7_statement_385 : decode cX7_statement 385 = .ok (.putfield 123, 3) := by decide +kernel
theorem dX7_statement_388 : decode cX7_statement 388 = .ok (.iconst 1, 1) := by decide +kernel
theorem dX7_statement_389 : decode cX7_statement 389 = .ok (.ireturn, 1) := by decide +kernel
set_option maxRecDepth 20000 in
theorem ggX7_tells_X7_isIn : GoodIn wsX7_tells wsX7_isIn := goodIn_r _ [11] (by decide +kernel) (by decide +kernel)
set_option maxRecDepth 20000 in
theorem gX7_tells_X7_isIn : GoodIn wsX7_tells (va_wsS RX7 37 yX7_isIn wsX7_isIn) := goodIn_app (goodIn_of _ (by decide +kernel)) ggX7_tells_X7_isIn
set_option maxRecDepth 20000 in
theorem ggX7_tells_X7_begins : GoodIn wsX7_tells wsX7_begins := goodIn_r _ [15, 7, 76, 77, 78, 79, 80, 81, 82, 83, 84, 85, 86, 87, 88, 89, 90, 91, 92, 93] (by decide +kernel) (by decide +kernel)
set_option maxRecDepth 20000 in
theorem gX7_tells_X7_begins : GoodIn wsX7_tells (wsV RX7 30 RX7 yX7_begins wsX7_begins) := goodIn_app (goodIn_of _ (by decide +kernel)) ggX7_tells_X7_begins
set_option maxRecDepth 20000 in
theorem ggX7_tells_X7_blanks : GoodIn wsX7_tells wsX7_blanks := goodIn_r _ [19, 5, 4, 2, 76, 77, 78, 79, 80, 81, 82, 83, 84, 85, 86, 87, 88, 89, 90, 91, 92, 93] (by decide +kernel) (by decide +kernel)
set_option maxRecDepth 20000 in
theorem gX7_tells_X7_blanks : GoodIn wsX7_tells (wsV RX7 129 RX7 yX7_blanks wsX7_blanks) := goodIn_app (goodIn_of _ (by decide +kernel)) ggX7_tells_X7_blanks
set_option maxRecDepth 20000 in
theorem ggX7_tells_X7_statement : GoodIn wsX7_tells wsX7_statement := goodIn_r _ [23, 24, 25, 26, 7, 27, 28, 29, 30, 31, 32, 5, 4, 2, 33, 34, 35, 10, 36, 37, 38, 39, 40, 41, 16, 17, 18, 19, 42, 43, 44, 45, 46, 47, 48, 49, 50, 51, 52, 53, 54, 55, 56, 57, 58, 59, 60, 61, 62, 63, 64, 65, 66, 67, 68, 69, 70, 76, 77, 78, 79, 80, 81, 82, 83, 84, 85, 86, 87, 88, 89, 90, 91, 92, 93] (by decide +kernel) (by decide +kernel)
set_option maxRecDepth 20000 in
theorem gX7_tells_X7_statement : GoodIn wsX7_tells (wsV RX7 182 RX7 yX7_statement wsX7_statement) := goodIn_app (goodIn_of _ (by decide +kernel)) ggX7_tells_X7_statement
set_option maxRecDepth 20000 in
theorem ggX7_tells_X7_forgets : GoodIn wsX7_tells wsX7_forgets := goodIn_r _ [74, 75, 76, 77, 78, 79, 80, 81, 82, 83, 84, 85, 86, 87, 88, 89, 90, 91, 92, 93] (by decide +kernel) (by decide +kernel)
set_option maxRecDepth 20000 in
theorem gX7_tells_X7_forgets : GoodIn wsX7_tells (wsV RX7 34 RX7 yX7_forgets wsX7_forgets) := goodIn_app (goodIn_of _ (by decide +kernel)) ggX7_tells_X7_forgets
theorem dX7_tells_0 : decode cX7_tells 0 = .ok (.iload_n 1, 1) := by decide +kernel
theorem dX7_tells_1 : decode cX7_tells 1 = .ok (.iconst 0, 1) := by decide +kernel
theorem dX7_tells_2 : decode cX7_tells 2 = .ok (.aload_n 0, 1) := by decide +kernel
theorem dX7_tells_3 : decode cX7_tells 3 = .ok (.getfield 117, 3) := by decide +kernel
theorem dX7_tells_6 : decode cX7_tells 6 = .ok (.invokestatic 37, 3) := by decide +kernel
theorem dX7_tells_9 : decode cX7_tells 9 = .ok (.ifCond .ne 6, 3) := by decide +kernel
theorem dX7_tells_12 : decode cX7_tells 12 = .ok (.bipush (-2), 2) := by decide +kernel
theorem dX7_tells_14 : decode cX7_tells 14 = .ok (.ireturn, 1) := by decide +kernel
theorem dX7_tells_15 : decode cX7_tells 15 = .ok (.iconst 0, 1) := by decide +kernel
theorem dX7_tells_16 : decode cX7_tells 16 = .ok (.istore_n 2, 1) := by decide +kernel
theorem dX7_tells_17 : decode cX7_tells 17 = .ok (.iload_n 2, 1) := by decide +kernel
theorem dX7_tells_18 : decode cX7_tells 18 = .ok (.iload_n 1, 1) := by decide +kernel
theorem dX7_tells_19 : decode cX7_tells 19 = .ok (.if_icmp .ge 21, 3) := by decide +kernel
theorem dX7_tells_22 : decode cX7_tells 22 = .ok (.aload_n 0, 1) := by decide +kernel
theorem dX7_tells_23 : decode cX7_tells 23 = .ok (.getfield 20, 3) := by decide +kernel
theorem dX7_tells_26 : decode cX7_tells 26 = .ok (.iload_n 2, 1) := by decide +kernel
theorem dX7_tells_27 : decode cX7_tells 27 = .ok (.aload_n 0, 1) := by decide +kernel
theorem dX7_tells_28 : decode cX7_tells 28 = .ok (.getfield 16, 3) := by decide +kernel
theorem dX7_tells_31 : decode cX7_tells 31 = .ok (.iload_n 2, 1) := by decide +kernel
theorem dX7_tells_32 : decode cX7_tells 32 = .ok (.baload, 1) := by decide +kernel
theorem dX7_tells_33 : decode cX7_tells 33 = .ok (.bastore, 1) := by decide +kernel
theorem dX7_tells_34 : decode cX7_tells 34 = .ok (.iinc 2 1, 3) := by decide +kernel
theorem dX7_tells_37 : decode cX7_tells 37 = .ok (.goto (-20), 3) := by decide +kernel
theorem dX7_tells_40 : decode cX7_tells 40 = .ok (.aload_n 0, 1) := by decide +kernel
theorem dX7_tells_41 : decode cX7_tells 41 = .ok (.iload_n 1, 1) := by decide +kernel
theorem dX7_tells_42 : decode cX7_tells 42 = .ok (.putfield 126, 3) := by decide +kernel
theorem dX7_tells_45 : decode cX7_tells 45 = .ok (.aload_n 0, 1) := by decide +kernel
theorem dX7_tells_46 : decode cX7_tells 46 = .ok (.iconst 0, 1) := by decide +kernel
theorem dX7_tells_47 : decode cX7_tells 47 = .ok (.putfield 117, 3) := by decide +kernel
theorem dX7_tells_50 : decode cX7_tells 50 = .ok (.aload_n 0, 1) := by decide +kernel
theorem dX7_tells_51 : decode cX7_tells 51 = .ok (.iconst 0, 1) := by decide +kernel
theorem dX7_tells_52 : decode cX7_tells 52 = .ok (.putfield 123, 3) := by decide +kernel
theorem dX7_tells_55 : decode cX7_tells 55 = .ok (.aload_n 0, 1) := by decide +kernel
theorem dX7_tells_56 : decode cX7_tells 56 = .ok (.bipush 25, 2) := by decide +kernel
theorem dX7_tells_58 : decode cX7_tells 58 = .ok (.invokevirtual 30, 3) := by decide +kernel
theorem dX7_tells_61 : decode cX7_tells 61 = .ok (.iconst 0, 1) := by decide +kernel
theorem dX7_tells_62 : decode cX7_tells 62 = .ok (.istore_n 2, 1) := by decide +kernel
theorem dX7_tells_63 : decode cX7_tells 63 = .ok (.iconst 1, 1) := by decide +kernel
theorem dX7_tells_64 : decode cX7_tells 64 = .ok (.istore_n 3, 1) := by decide +kernel
theorem dX7_tells_65 : decode cX7_tells 65 = .ok (.aload_n 0, 1) := by decide +kernel
theorem dX7_tells_66 : decode cX7_tells 66 = .ok (.invokevirtual 129, 3) := by decide +kernel
theorem dX7_tells_69 : decode cX7_tells 69 = .ok (.iload_n 3, 1) := by decide +kernel
theorem dX7_tells_70 : decode cX7_tells 70 = .ok (.ifCond .eq 47, 3) := by decide +kernel
theorem dX7_tells_73 : decode cX7_tells 73 = .ok (.aload_n 0, 1) := by decide +kernel
theorem dX7_tells_74 : decode cX7_tells 74 = .ok (.getfield 123, 3) := by decide +kernel
theorem dX7_tells_77 : decode cX7_tells 77 = .ok (.aload_n 0, 1) := by decide +kernel
theorem dX7_tells_78 : decode cX7_tells 78 = .ok (.getfield 126, 3) := by decide +kernel
theorem dX7_tells_81 : decode cX7_tells 81 = .ok (.if_icmp .ge 36, 3) := by decide +kernel
theorem dX7_tells_84 : decode cX7_tells 84 = .ok (.iload_n 2, 1) := by decide +kernel
theorem dX7_tells_85 : decode cX7_tells 85 = .ok (.bipush 32, 2) := by decide +kernel
theorem dX7_tells_87 : decode cX7_tells 87 = .ok (.if_icmp .ge 14, 3) := by decide +kernel
theorem dX7_tells_90 : decode cX7_tells 90 = .ok (.aload_n 0, 1) := by decide +kernel
theorem dX7_tells_91 : decode cX7_tells 91 = .ok (.invokevirtual 182, 3) := by decide +kernel
theorem dX7_tells_94 : decode cX7_tells 94 = .ok (.ifCond .eq 7, 3) := by decide +kernel
theorem dX7_tells_97 : decode cX7_tells 97 = .ok (.iconst 1, 1) := by decide +kernel
theorem dX7_tells_98 : decode cX7_tells 98 = .ok (.goto 4, 3) := by decide +kernel
theorem dX7_tells_101 : decode cX7_tells 101 = .ok (.iconst 0, 1) := by decide +kernel
theorem dX7_tells_102 : decode cX7_tells 102 = .ok (.istore_n 3, 1) := by decide +kernel
theorem dX7_tells_103 : decode cX7_tells 103 = .ok (.iinc 2 1, 3) := by decide +kernel
theorem dX7_tells_106 : decode cX7_tells 106 = .ok (.iload_n 3, 1) := by decide +kernel
theorem dX7_tells_107 : decode cX7_tells 107 = .ok (.ifCond .eq (-38), 3) := by decide +kernel
theorem dX7_tells_110 : decode cX7_tells 110 = .ok (.aload_n 0, 1) := by decide +kernel
theorem dX7_tells_111 : decode cX7_tells 111 = .ok (.invokevirtual 129, 3) := by decide +kernel
theorem dX7_tells_114 : decode cX7_tells 114 = .ok (.goto (-45), 3) := by decide +kernel
theorem dX7_tells_117 : decode cX7_tells 117 = .ok (.aload_n 0, 1) := by decide +kernel
theorem dX7_tells_118 : decode cX7_tells 118 = .ok (.iload_n 3, 1) := by decide +kernel
theorem dX7_tells_119 : decode cX7_tells 119 = .ok (.ifCond .eq 7, 3) := by decide +kernel
theorem dX7_tells_122 : decode cX7_tells 122 = .ok (.iconst (-1), 1) := by decide +kernel
theorem dX7_tells_123 : decode cX7_tells 123 = .ok (.goto 7, 3) := by decide +kernel
theorem dX7_tells_126 : decode cX7_tells 126 = .ok (.aload_n 0, 1) := by decide +kernel
theorem dX7_tells_127 : decode cX7_tells 127 = .ok (.getfield 123, 3) := by decide +kernel
theorem dX7_tells_130 : decode cX7_tells 130 = .ok (.putfield 23, 3) := by decide +kernel
theorem dX7_tells_133 : decode cX7_tells 133 = .ok (.iload_n 3, 1) := by decide +kernel
theorem dX7_tells_134 : decode cX7_tells 134 = .ok (.ifCond .ne 5, 3) := by decide +kernel
theorem dX7_tells_137 : decode cX7_tells 137 = .ok (.iconst (-1), 1) := by decide +kernel
theorem dX7_tells_138 : decode cX7_tells 138 = .ok (.ireturn, 1) := by decide +kernel
theorem dX7_tells_139 : decode cX7_tells 139 = .ok (.iconst 0, 1) := by decide +kernel
theorem dX7_tells_140 : decode cX7_tells 140 = .ok (.istore 4, 2) := by decide +kernel
theorem dX7_tells_142 : decode cX7_tells 142 = .ok (.iload 4, 2) := by decide +kernel
theorem dX7_tells_144 : decode cX7_tells 144 = .ok (.bipush 25, 2) := by decide +kernel
theorem dX7_tells_146 : decode cX7_tells 146 = .ok (.if_icmp .ge 26, 3) := by decide +kernel
theorem dX7_tells_149 : decode cX7_tells 149 = .ok (.aload_n 0, 1) := by decide +kernel
theorem dX7_tells_150 : decode cX7_tells 150 = .ok (.getfield 7, 3) := by decide +kernel
theorem dX7_tells_153 : decode cX7_tells 153 = .ok (.iload 4, 2) := by decide +kernel
theorem dX7_tells_155 : decode cX7_tells 155 = .ok (.aload_n 0, 1) := by decide +kernel
theorem dX7_tells_156 : decode cX7_tells 156 = .ok (.getfield 7, 3) := by decide +kernel
theorem dX7_tells_159 : decode cX7_tells 159 = .ok (.bipush 25, 2) := by decide +kernel
theorem dX7_tells_161 : decode cX7_tells 161 = .ok (.iload 4, 2) := by decide +kernel
theorem dX7_tells_163 : decode cX7_tells 163 = .ok (.iadd, 1) := by decide +kernel
theorem dX7_tells_164 : decode cX7_tells 164 = .ok (.iaload, 1) := by decide +kernel
theorem dX7_tells_165 : decode cX7_tells 165 = .ok (.iastore, 1) := by decide +kernel
theorem dX7_tells_166 : decode cX7_tells 166 = .ok (.iinc 4 1, 3) := by decide +kernel
theorem dX7_tells_169 : decode cX7_tells 169 = .ok (.goto (-27), 3) := by decide +kernel
theorem dX7_tells_172 : decode cX7_tells 172 = .ok (.aload_n 0, 1) := by decide +kernel
theorem dX7_tells_173 : decode cX7_tells 173 = .ok (.invokevirtual 34, 3) := by decide +kernel
theorem dX7_tells_176 : decode cX7_tells 176 = .ok (.iload_n 2, 1) := by decide +kernel
theorem dX7_tells_177 : decode cX7_tells 177 = .ok (.ireturn, 1) := by decide +kernel
theorem dX7_fault_0 : decode cX7_fault 0 = .ok (.aload_n 0, 1) := by decide +kernel
theorem dX7_fault_1 : decode cX7_fault 1 = .ok (.getfield 23, 3) := by decide +kernel
theorem dX7_fault_4 : decode cX7_fault 4 = .ok (.ireturn, 1) := by decide +kernel
theorem dX7_put_0 : decode cX7_put 0 = .ok (.aload_n 0, 1) := by decide +kernel
theorem dX7_put_1 : decode cX7_put 1 = .ok (.getfield 27, 3) := by decide +kernel
theorem dX7_put_4 : decode cX7_put 4 = .ok (.aload_n 0, 1) := by decide +kernel
theorem dX7_put_5 : decode cX7_put 5 = .ok (.getfield 185, 3) := by decide +kernel
theorem dX7_put_8 : decode cX7_put 8 = .ok (.iload_n 1, 1) := by decide +kernel
theorem dX7_put_9 : decode cX7_put 9 = .ok (.i2b, 1) := by decide +kernel
theorem dX7_put_10 : decode cX7_put 10 = .ok (.bastore, 1) := by decide +kernel
theorem dX7_put_11 : decode cX7_put 11 = .ok (.aload_n 0, 1) := by decide +kernel
theorem dX7_put_12 : decode cX7_put 12 = .ok (.dup, 1) := by decide +kernel
theorem dX7_put_13 : decode cX7_put 13 = .ok (.getfield 185, 3) := by decide +kernel
theorem dX7_put_16 : decode cX7_put 16 = .ok (.iconst 1, 1) := by decide +kernel
theorem dX7_put_17 : decode cX7_put 17 = .ok (.iadd, 1) := by decide +kernel
theorem dX7_put_18 : decode cX7_put 18 = .ok (.putfield 185, 3) := by decide +kernel
theorem dX7_put_21 : decode cX7_put 21 = .ok (.return_, 1) := by decide +kernel
set_option maxRecDepth 20000 in
theorem ggX7_putWord_X7_put : GoodIn wsX7_putWord wsX7_put := goodIn_r _ [6, 7, 8, 9, 10, 11, 12, 13, 14, 15, 16, 17, 18, 19, 20, 21, 22, 23, 24, 25, 26] (by decide +kernel) (by decide +kernel)
set_option maxRecDepth 20000 in
theorem gX7_putWord_X7_put : GoodIn wsX7_putWord (wsV RX7 188 RX7 yX7_put wsX7_put) := goodIn_app (goodIn_of _ (by decide +kernel)) ggX7_putWord_X7_put
theorem dX7_putWord_0 : decode cX7_putWord 0 = .ok (.iload_n 3, 1) := by decide +kernel
theorem dX7_putWord_1 : decode cX7_putWord 1 = .ok (.ifCond .ne 9, 3) := by decide +kernel
theorem dX7_putWord_4 : decode cX7_putWord 4 = .ok (.aload_n 0, 1) := by decide +kernel
theorem dX7_putWord_5 : decode cX7_putWord 5 = .ok (.bipush 32, 2) := by decide +kernel
theorem dX7_putWord_7 : decode cX7_putWord 7 = .ok (.invokevirtual 188, 3) := by decide +kernel
theorem dX7_putWord_10 : decode cX7_putWord 10 = .ok (.bipush 56, 2) := by decide +kernel
theorem dX7_putWord_12 : decode cX7_putWord 12 = .ok (.istore 4, 2) := by decide +kernel
theorem dX7_putWord_14 : decode cX7_putWord 14 = .ok (.iload 4, 2) := by decide +kernel
theorem dX7_putWord_16 : decode cX7_putWord 16 = .ok (.ifCond .lt 35, 3) := by decide +kernel
theorem dX7_putWord_19 : decode cX7_putWord 19 = .ok (.lload_n 1, 1) := by decide +kernel
theorem dX7_putWord_20 : decode cX7_putWord 20 = .ok (.iload 4, 2) := by decide +kernel
theorem dX7_putWord_22 : decode cX7_putWord 22 = .ok (.lshr, 1) := by decide +kernel
theorem dX7_putWord_23 : decode cX7_putWord 23 = .ok (.ldc2_w 191, 3) := by decide +kernel
theorem dX7_putWord_26 : decode cX7_putWord 26 = .ok (.land, 1) := by decide +kernel
theorem dX7_putWord_27 : decode cX7_putWord 27 = .ok (.lconst 0, 1) := by decide +kernel
theorem dX7_putWord_28 : decode cX7_putWord 28 = .ok (.lcmp, 1) := by decide +kernel
theorem dX7_putWord_29 : decode cX7_putWord 29 = .ok (.ifCond .eq 16, 3) := by decide +kernel
theorem dX7_putWord_32 : decode cX7_putWord 32 = .ok (.aload_n 0, 1) := by decide +kernel
theorem dX7_putWord_33 : decode cX7_putWord 33 = .ok (.lload_n 1, 1) := by decide +kernel
theorem dX7_putWord_34 : decode cX7_putWord 34 = .ok (.iload 4, 2) := by decide +kernel
theorem dX7_putWord_36 : decode cX7_putWord 36 = .ok (.lshr, 1) := by decide +kernel
theorem dX7_putWord_37 : decode cX7_putWord 37 = .ok (.ldc2_w 191, 3) := by decide +kernel
theorem dX7_putWord_40 : decode cX7_putWord 40 = .ok (.land, 1) := by decide +kernel
theorem dX7_putWord_41 : decode cX7_putWord 41 = .ok (.l2i, 1) := by decide +kernel
theorem dX7_putWord_42 : decode cX7_putWord 42 = .ok (.invokevirtual 188, 3) := by decide +kernel
theorem dX7_putWord_45 : decode cX7_putWord 45 = .ok (.iinc 4 (-8), 3) := by decide +kernel
theorem dX7_putWord_48 : decode cX7_putWord 48 = .ok (.goto (-34), 3) := by decide +kernel
theorem dX7_putWord_51 : decode cX7_putWord 51 = .ok (.return_, 1) := by decide +kernel
set_option maxRecDepth 20000 in
theorem ggX7_putNumber_X7_put : GoodIn wsX7_putNumber wsX7_put := goodIn_r _ [5, 6, 7, 8, 9, 10, 11, 12, 13, 14, 15, 16, 17, 18, 19, 20, 21, 22, 23, 24, 25] (by decide +kernel) (by decide +kernel)
set_option maxRecDepth 20000 in
theorem gX7_putNumber_X7_put : GoodIn wsX7_putNumber (wsV RX7 188 RX7 yX7_put wsX7_put) := goodIn_app (goodIn_of _ (by decide +kernel)) ggX7_putNumber_X7_put
theorem dX7_putNumber_0 : decode cX7_putNumber 0 = .ok (.aload_n 0, 1) := by decide +kernel
theorem dX7_putNumber_1 : decode cX7_putNumber 1 = .ok (.bipush 32, 2) := by decide +kernel
theorem dX7_putNumber_3 : decode cX7_putNumber 3 = .ok (.invokevirtual 188, 3) := by decide +kernel
theorem dX7_putNumber_6 : decode cX7_putNumber 6 = .ok (.iload_n 1, 1) := by decide +kernel
theorem dX7_putNumber_7 : decode cX7_putNumber 7 = .ok (.bipush 99, 2) := by decide +kernel
theorem dX7_putNumber_9 : decode cX7_putNumber 9 = .ok (.if_icmp .le 14, 3) := by decide +kernel
theorem dX7_putNumber_12 : decode cX7_putNumber 12 = .ok (.aload_n 0, 1) := by decide +kernel
theorem dX7_putNumber_13 : decode cX7_putNumber 13 = .ok (.bipush 48, 2) := by decide +kernel
theorem dX7_putNumber_15 : decode cX7_putNumber 15 = .ok (.iload_n 1, 1) := by decide +kernel
theorem dX7_putNumber_16 : decode cX7_putNumber 16 = .ok (.bipush 100, 2) := by decide +kernel
theorem dX7_putNumber_18 : decode cX7_putNumber 18 = .ok (.idiv, 1) := by decide +kernel
theorem dX7_putNumber_19 : decode cX7_putNumber 19 = .ok (.iadd, 1) := by decide +kernel
theorem dX7_putNumber_20 : decode cX7_putNumber 20 = .ok (.invokevirtual 188, 3) := by decide +kernel
theorem dX7_putNumber_23 : decode cX7_putNumber 23 = .ok (.iload_n 1, 1) := by decide +kernel
theorem dX7_putNumber_24 : decode cX7_putNumber 24 = .ok (.bipush 9, 2) := by decide +kernel
theorem dX7_putNumber_26 : decode cX7_putNumber 26 = .ok (.if_icmp .le 17, 3) := by decide +kernel
theorem dX7_putNumber_29 : decode cX7_putNumber 29 = .ok (.aload_n 0, 1) := by decide +kernel
theorem dX7_putNumber_30 : decode cX7_putNumber 30 = .ok (.bipush 48, 2) := by decide +kernel
theorem dX7_putNumber_32 : decode cX7_putNumber 32 = .ok (.iload_n 1, 1) := by decide +kernel
theorem dX7_putNumber_33 : decode cX7_putNumber 33 = .ok (.bipush 10, 2) := by decide +kernel
theorem dX7_putNumber_35 : decode cX7_putNumber 35 = .ok (.idiv, 1) := by decide +kernel
theorem dX7_putNumber_36 : decode cX7_putNumber 36 = .ok (.bipush 10, 2) := by decide +kernel
theorem dX7_putNumber_38 : decode cX7_putNumber 38 = .ok (.irem, 1) := by decide +kernel
theorem dX7_putNumber_39 : decode cX7_putNumber 39 = .ok (.iadd, 1) := by decide +kernel
theorem dX7_putNumber_40 : decode cX7_putNumber 40 = .ok (.invokevirtual 188, 3) := by decide +kernel
theorem dX7_putNumber_43 : decode cX7_putNumber 43 = .ok (.aload_n 0, 1) := by decide +kernel
theorem dX7_putNumber_44 : decode cX7_putNumber 44 = .ok (.bipush 48, 2) := by decide +kernel
theorem dX7_putNumber_46 : decode cX7_putNumber 46 = .ok (.iload_n 1, 1) := by decide +kernel
theorem dX7_putNumber_47 : decode cX7_putNumber 47 = .ok (.bipush 10, 2) := by decide +kernel
theorem dX7_putNumber_49 : decode cX7_putNumber 49 = .ok (.irem, 1) := by decide +kernel
theorem dX7_putNumber_50 : decode cX7_putNumber 50 = .ok (.iadd, 1) := by decide +kernel
theorem dX7_putNumber_51 : decode cX7_putNumber 51 = .ok (.invokevirtual 188, 3) := by decide +kernel
theorem dX7_putNumber_54 : decode cX7_putNumber 54 = .ok (.return_, 1) := by decide +kernel
set_option maxRecDepth 20000 in
theorem ggX7_putSet_X7_putNumber : GoodIn wsX7_putSet wsX7_putNumber := goodIn_r _ [5, 6, 7, 8, 4, 9, 10, 11, 12, 13, 14, 15, 16, 17, 18, 19, 20, 21, 22, 23, 24, 25, 26, 27, 28, 29] (by decide +kernel) (by decide +kernel)
set_option maxRecDepth 20000 in
theorem gX7_putSet_X7_putNumber : GoodIn wsX7_putSet (wsV RX7 193 RX7 yX7_putNumber wsX7_putNumber) := goodIn_app (goodIn_of _ (by decide +kernel)) ggX7_putSet_X7_putNumber
set_option maxRecDepth 20000 in
theorem ggX7_putSet_X7_put : GoodIn wsX7_putSet wsX7_put := goodIn_r _ [9, 10, 11, 12, 13, 14, 15, 16, 17, 18, 19, 20, 21, 22, 23, 24, 25, 26, 27, 28, 29] (by decide +kernel) (by decide +kernel)
set_option maxRecDepth 20000 in
theorem gX7_putSet_X7_put : GoodIn wsX7_putSet (wsV RX7 188 RX7 yX7_put wsX7_put) := goodIn_app (goodIn_of _ (by decide +kernel)) ggX7_putSet_X7_put
theorem dX7_putSet_0 : decode cX7_putSet 0 = .ok (.iconst 0, 1) := by decide +kernel
theorem dX7_putSet_1 : decode cX7_putSet 1 = .ok (.istore_n 2, 1) := by decide +kernel
theorem dX7_putSet_2 : decode cX7_putSet 2 = .ok (.iload_n 2, 1) := by decide +kernel
theorem dX7_putSet_3 : decode cX7_putSet 3 = .ok (.iconst 4, 1) := by decide +kernel
theorem dX7_putSet_4 : decode cX7_putSet 4 = .ok (.if_icmp .ge 23, 3) := by decide +kernel
theorem dX7_putSet_7 : decode cX7_putSet 7 = .ok (.iload_n 1, 1) := by decide +kernel
theorem dX7_putSet_8 : decode cX7_putSet 8 = .ok (.iload_n 2, 1) := by decide +kernel
theorem dX7_putSet_9 : decode cX7_putSet 9 = .ok (.ishr, 1) := by decide +kernel
theorem dX7_putSet_10 : decode cX7_putSet 10 = .ok (.iconst 1, 1) := by decide +kernel
theorem dX7_putSet_11 : decode cX7_putSet 11 = .ok (.iand, 1) := by decide +kernel
theorem dX7_putSet_12 : decode cX7_putSet 12 = .ok (.iconst 1, 1) := by decide +kernel
theorem dX7_putSet_13 : decode cX7_putSet 13 = .ok (.if_icmp .ne 8, 3) := by decide +kernel
theorem dX7_putSet_16 : decode cX7_putSet 16 = .ok (.aload_n 0, 1) := by decide +kernel
theorem dX7_putSet_17 : decode cX7_putSet 17 = .ok (.iload_n 2, 1) := by decide +kernel
theorem dX7_putSet_18 : decode cX7_putSet 18 = .ok (.invokevirtual 193, 3) := by decide +kernel
theorem dX7_putSet_21 : decode cX7_putSet 21 = .ok (.iinc 2 1, 3) := by decide +kernel
theorem dX7_putSet_24 : decode cX7_putSet 24 = .ok (.goto (-22), 3) := by decide +kernel
theorem dX7_putSet_27 : decode cX7_putSet 27 = .ok (.aload_n 0, 1) := by decide +kernel
theorem dX7_putSet_28 : decode cX7_putSet 28 = .ok (.bipush 59, 2) := by decide +kernel
theorem dX7_putSet_30 : decode cX7_putSet 30 = .ok (.invokevirtual 188, 3) := by decide +kernel
theorem dX7_putSet_33 : decode cX7_putSet 33 = .ok (.return_, 1) := by decide +kernel
set_option maxRecDepth 20000 in
theorem ggX7_putName_X7_putWord : GoodIn wsX7_putName wsX7_putWord := goodIn_r _ [9, 10, 11, 12, 13, 8, 14, 15, 16, 21, 22, 23, 24, 25, 26, 27, 28, 29, 30, 31, 32, 33, 34, 35, 36, 37, 38] (by decide +kernel) (by decide +kernel)
set_option maxRecDepth 20000 in
theorem gX7_putName_X7_putWord : GoodIn wsX7_putName (wsV RX7 196 RX7 yX7_putWord wsX7_putWord) := goodIn_app (goodIn_of _ (by decide +kernel)) ggX7_putName_X7_putWord
set_option maxRecDepth 20000 in
theorem ggX7_putName_X7_putNumber : GoodIn wsX7_putName wsX7_putNumber := goodIn_r _ [20, 11, 12, 13, 8, 14, 15, 16, 21, 22, 23, 24, 25, 26, 27, 28, 29, 30, 31, 32, 33, 34, 35, 36, 37, 38] (by decide +kernel) (by decide +kernel)
set_option maxRecDepth 20000 in
theorem gX7_putName_X7_putNumber : GoodIn wsX7_putName (wsV RX7 193 RX7 yX7_putNumber wsX7_putNumber) := goodIn_app (goodIn_of _ (by decide +kernel)) ggX7_putName_X7_putNumber
theorem dX7_putName_0 : decode cX7_putName 0 = .ok (.iload_n 1, 1) := by decide +kernel
theorem dX7_putName_1 : decode cX7_putName 1 = .ok (.iconst 3, 1) := by decide +kernel
theorem dX7_putName_2 : decode cX7_putName 2 = .ok (.if_icmp .ge 35, 3) := by decide +kernel
theorem dX7_putName_5 : decode cX7_putName 5 = .ok (.aload_n 0, 1) := by decide +kernel
theorem dX7_putName_6 : decode cX7_putName 6 = .ok (.iload_n 1, 1) := by decide +kernel
theorem dX7_putName_7 : decode cX7_putName 7 = .ok (.ifCond .ne 9, 3) := by decide +kernel
theorem dX7_putName_10 : decode cX7_putName 10 = .ok (.ldc2_w 149, 3) := by decide +kernel
theorem dX7_putName_13 : decode cX7_putName 13 = .ok (.goto 17, 3) := by decide +kernel
theorem dX7_putName_16 : decode cX7_putName 16 = .ok (.iload_n 1, 1) := by decide +kernel
theorem dX7_putName_17 : decode cX7_putName 17 = .ok (.iconst 1, 1) := by decide +kernel
theorem dX7_putName_18 : decode cX7_putName 18 = .ok (.if_icmp .ne 9, 3) := by decide +kernel
theorem dX7_putName_21 : decode cX7_putName 21 = .ok (.ldc2_w 151, 3) := by decide +kernel
theorem dX7_putName_24 : decode cX7_putName 24 = .ok (.goto 6, 3) := by decide +kernel
theorem dX7_putName_27 : decode cX7_putName 27 = .ok (.ldc2_w 153, 3) := by decide +kernel
theorem dX7_putName_30 : decode cX7_putName 30 = .ok (.iconst 0, 1) := by decide +kernel
theorem dX7_putName_31 : decode cX7_putName 31 = .ok (.invokevirtual 196, 3) := by decide +kernel
theorem dX7_putName_34 : decode cX7_putName 34 = .ok (.goto 18, 3) := by decide +kernel
theorem dX7_putName_37 : decode cX7_putName 37 = .ok (.aload_n 0, 1) := by decide +kernel
theorem dX7_putName_38 : decode cX7_putName 38 = .ok (.ldc2_w 176, 3) := by decide +kernel
theorem dX7_putName_41 : decode cX7_putName 41 = .ok (.iconst 0, 1) := by decide +kernel
theorem dX7_putName_42 : decode cX7_putName 42 = .ok (.invokevirtual 196, 3) := by decide +kernel
theorem dX7_putName_45 : decode cX7_putName 45 = .ok (.aload_n 0, 1) := by decide +kernel
theorem dX7_putName_46 : decode cX7_putName 46 = .ok (.iload_n 1, 1) := by decide +kernel
theorem dX7_putName_47 : decode cX7_putName 47 = .ok (.iconst 3, 1) := by decide +kernel
theorem dX7_putName_48 : decode cX7_putName 48 = .ok (.isub, 1) := by decide +kernel
theorem dX7_putName_49 : decode cX7_putName 49 = .ok (.invokevirtual 193, 3) := by decide +kernel
theorem dX7_putName_52 : decode cX7_putName 52 = .ok (.return_, 1) := by decide +kernel
set_option maxRecDepth 20000 in
theorem ggX7_writes_X7_putWord : GoodIn wsX7_writes wsX7_putWord := goodIn_r _ [15, 16, 17, 18, 19, 14, 20, 21, 1, 47, 48, 49, 50, 51, 52, 53, 54, 55, 56, 57, 58, 59, 60, 61, 62, 63, 64] (by decide +kernel) (by decide +kernel)
set_option maxRecDepth 20000 in
theorem gX7_writes_X7_putWord : GoodIn wsX7_writes (wsV RX7 196 RX7 yX7_putWord wsX7_putWord) := goodIn_app (goodIn_of _ (by decide +kernel)) ggX7_writes_X7_putWord
set_option maxRecDepth 20000 in
theorem ggX7_writes_X7_putNumber : GoodIn wsX7_writes wsX7_putNumber := goodIn_r _ [25, 17, 18, 19, 14, 20, 21, 1, 47, 48, 49, 50, 51, 52, 53, 54, 55, 56, 57, 58, 59, 60, 61, 62, 63, 64] (by decide +kernel) (by decide +kernel)
set_option maxRecDepth 20000 in
theorem gX7_writes_X7_putNumber : GoodIn wsX7_writes (wsV RX7 193 RX7 yX7_putNumber wsX7_putNumber) := goodIn_app (goodIn_of _ (by decide +kernel)) ggX7_writes_X7_putNumber
set_option maxRecDepth 20000 in
theorem ggX7_writes_X7_putSet : GoodIn wsX7_writes wsX7_putSet := goodIn_r _ [29, 22, 23, 24, 14, 25, 17, 18, 19, 20, 21, 1, 47, 48, 49, 50, 51, 52, 53, 54, 55, 56, 57, 58, 59, 60, 61, 62, 63, 64] (by decide +kernel) (by decide +kernel)
set_option maxRecDepth 20000 in
theorem gX7_writes_X7_putSet : GoodIn wsX7_writes (wsV RX7 200 RX7 yX7_putSet wsX7_putSet) := goodIn_app (goodIn_of _ (by decide +kernel)) ggX7_writes_X7_putSet
set_option maxRecDepth 20000 in
theorem ggX7_writes_X7_put : GoodIn wsX7_writes wsX7_put := goodIn_r _ [20, 21, 1, 47, 48, 49, 50, 51, 52, 53, 54, 55, 56, 57, 58, 59, 60, 61, 62, 63, 64] (by decide +kernel) (by decide +kernel)
set_option maxRecDepth 20000 in
theorem gX7_writes_X7_put : GoodIn wsX7_writes (wsV RX7 188 RX7 yX7_put wsX7_put) := goodIn_app (goodIn_of _ (by decide +kernel)) ggX7_writes_X7_put
set_option maxRecDepth 20000 in
theorem ggX7_writes_X7_putName : GoodIn wsX7_writes wsX7_putName := goodIn_r _ [33, 34, 35, 36, 8, 11, 12, 13, 14, 15, 16, 17, 18, 19, 20, 21, 1, 22, 23, 24, 25, 47, 48, 49, 50, 51, 52, 53, 54, 55, 56, 57, 58, 59, 60, 61, 62, 63, 64] (by decide +kernel) (by decide +kernel)
set_option maxRecDepth 20000 in
theorem gX7_writes_X7_putName : GoodIn wsX7_writes (wsV RX7 203 RX7 yX7_putName wsX7_putName) := goodIn_app (goodIn_of _ (by decide +kernel)) ggX7_writes_X7_putName
set_option maxRecDepth 20000 in
theorem ggX7_writes_X7_pair : GoodIn wsX7_writes wsX7_pair := goodIn_r _ [39, 40, 41, 42, 43, 44, 45, 46] (by decide +kernel) (by decide +kernel)
set_option maxRecDepth 20000 in
theorem gX7_writes_X7_pair : GoodIn wsX7_writes (va_wsS RX7 62 yX7_pair wsX7_pair) := goodIn_app (goodIn_of _ (by decide +kernel)) ggX7_writes_X7_pair
theorem dX7_writes_0 : decode cX7_writes 0 = .ok (.aload_n 0, 1) := by decide +kernel
theorem dX7_writes_1 : decode cX7_writes 1 = .ok (.iconst 0, 1) := by decide +kernel
theorem dX7_writes_2 : decode cX7_writes 2 = .ok (.putfield 185, 3) := by decide +kernel
theorem dX7_writes_5 : decode cX7_writes 5 = .ok (.iconst 0, 1) := by decide +kernel
theorem dX7_writes_6 : decode cX7_writes 6 = .ok (.istore_n 1, 1) := by decide +kernel
theorem dX7_writes_7 : decode cX7_writes 7 = .ok (.iload_n 1, 1) := by decide +kernel
theorem dX7_writes_8 : decode cX7_writes 8 = .ok (.iconst 5, 1) := by decide +kernel
theorem dX7_writes_9 : decode cX7_writes 9 = .ok (.if_icmp .ge 52, 3) := by decide +kernel
theorem dX7_writes_12 : decode cX7_writes 12 = .ok (.aload_n 0, 1) := by decide +kernel
theorem dX7_writes_13 : decode cX7_writes 13 = .ok (.getfield 7, 3) := by decide +kernel
theorem dX7_writes_16 : decode cX7_writes 16 = .ok (.iload_n 1, 1) := by decide +kernel
theorem dX7_writes_17 : decode cX7_writes 17 = .ok (.iaload, 1) := by decide +kernel
theorem dX7_writes_18 : decode cX7_writes 18 = .ok (.ifCond .ne 6, 3) := by decide +kernel
theorem dX7_writes_21 : decode cX7_writes 21 = .ok (.goto 34, 3) := by decide +kernel
theorem dX7_writes_24 : decode cX7_writes 24 = .ok (.aload_n 0, 1) := by decide +kernel
theorem dX7_writes_25 : decode cX7_writes 25 = .ok (.ldc2_w 155, 3) := by decide +kernel
theorem dX7_writes_28 : decode cX7_writes 28 = .ok (.iconst 1, 1) := by decide +kernel
theorem dX7_writes_29 : decode cX7_writes 29 = .ok (.invokevirtual 196, 3) := by decide +kernel
theorem dX7_writes_32 : decode cX7_writes 32 = .ok (.aload_n 0, 1) := by decide +kernel
theorem dX7_writes_33 : decode cX7_writes 33 = .ok (.iload_n 1, 1) := by decide +kernel
theorem dX7_writes_34 : decode cX7_writes 34 = .ok (.invokevirtual 193, 3) := by decide +kernel
theorem dX7_writes_37 : decode cX7_writes 37 = .ok (.aload_n 0, 1) := by decide +kernel
theorem dX7_writes_38 : decode cX7_writes 38 = .ok (.ldc2_w 161, 3) := by decide +kernel
theorem dX7_writes_41 : decode cX7_writes 41 = .ok (.iconst 0, 1) := by decide +kernel
theorem dX7_writes_42 : decode cX7_writes 42 = .ok (.invokevirtual 196, 3) := by decide +kernel
theorem dX7_writes_45 : decode cX7_writes 45 = .ok (.aload_n 0, 1) := by decide +kernel
theorem dX7_writes_46 : decode cX7_writes 46 = .ok (.aload_n 0, 1) := by decide +kernel
theorem dX7_writes_47 : decode cX7_writes 47 = .ok (.getfield 7, 3) := by decide +kernel
theorem dX7_writes_50 : decode cX7_writes 50 = .ok (.iload_n 1, 1) := by decide +kernel
theorem dX7_writes_51 : decode cX7_writes 51 = .ok (.iaload, 1) := by decide +kernel
theorem dX7_writes_52 : decode cX7_writes 52 = .ok (.invokevirtual 200, 3) := by decide +kernel
theorem dX7_writes_55 : decode cX7_writes 55 = .ok (.iinc 1 1, 3) := by decide +kernel
theorem dX7_writes_58 : decode cX7_writes 58 = .ok (.goto (-51), 3) := by decide +kernel
theorem dX7_writes_61 : decode cX7_writes 61 = .ok (.aload_n 0, 1) := by decide +kernel
theorem dX7_writes_62 : decode cX7_writes 62 = .ok (.getfield 7, 3) := by decide +kernel
theorem dX7_writes_65 : decode cX7_writes 65 = .ok (.iconst 5, 1) := by decide +kernel
theorem dX7_writes_66 : decode cX7_writes 66 = .ok (.iaload, 1) := by decide +kernel
theorem dX7_writes_67 : decode cX7_writes 67 = .ok (.ifCond .eq 21, 3) := by decide +kernel
theorem dX7_writes_70 : decode cX7_writes 70 = .ok (.aload_n 0, 1) := by decide +kernel
theorem dX7_writes_71 : decode cX7_writes 71 = .ok (.ldc2_w 167, 3) := by decide +kernel
theorem dX7_writes_74 : decode cX7_writes 74 = .ok (.iconst 1, 1) := by decide +kernel
theorem dX7_writes_75 : decode cX7_writes 75 = .ok (.invokevirtual 196, 3) := by decide +kernel
theorem dX7_writes_78 : decode cX7_writes 78 = .ok (.aload_n 0, 1) := by decide +kernel
theorem dX7_writes_79 : decode cX7_writes 79 = .ok (.aload_n 0, 1) := by decide +kernel
theorem dX7_writes_80 : decode cX7_writes 80 = .ok (.getfield 7, 3) := by decide +kernel
theorem dX7_writes_83 : decode cX7_writes 83 = .ok (.iconst 5, 1) := by decide +kernel
theorem dX7_writes_84 : decode cX7_writes 84 = .ok (.iaload, 1) := by decide +kernel
theorem dX7_writes_85 : decode cX7_writes 85 = .ok (.invokevirtual 200, 3) := by decide +kernel
theorem dX7_writes_88 : decode cX7_writes 88 = .ok (.aload_n 0, 1) := by decide +kernel
theorem dX7_writes_89 : decode cX7_writes 89 = .ok (.getfield 7, 3) := by decide +kernel
theorem dX7_writes_92 : decode cX7_writes 92 = .ok (.bipush 6, 2) := by decide +kernel
theorem dX7_writes_94 : decode cX7_writes 94 = .ok (.iaload, 1) := by decide +kernel
theorem dX7_writes_95 : decode cX7_writes 95 = .ok (.ifCond .le 28, 3) := by decide +kernel
theorem dX7_writes_98 : decode cX7_writes 98 = .ok (.aload_n 0, 1) := by decide +kernel
theorem dX7_writes_99 : decode cX7_writes 99 = .ok (.ldc2_w 169, 3) := by decide +kernel
theorem dX7_writes_102 : decode cX7_writes 102 = .ok (.iconst 1, 1) := by decide +kernel
theorem dX7_writes_103 : decode cX7_writes 103 = .ok (.invokevirtual 196, 3) := by decide +kernel
theorem dX7_writes_106 : decode cX7_writes 106 = .ok (.aload_n 0, 1) := by decide +kernel
theorem dX7_writes_107 : decode cX7_writes 107 = .ok (.aload_n 0, 1) := by decide +kernel
theorem dX7_writes_108 : decode cX7_writes 108 = .ok (.getfield 7, 3) := by decide +kernel
theorem dX7_writes_111 : decode cX7_writes 111 = .ok (.bipush 6, 2) := by decide +kernel
theorem dX7_writes_113 : decode cX7_writes 113 = .ok (.iaload, 1) := by decide +kernel
theorem dX7_writes_114 : decode cX7_writes 114 = .ok (.invokevirtual 193, 3) := by decide +kernel
theorem dX7_writes_117 : decode cX7_writes 117 = .ok (.aload_n 0, 1) := by decide +kernel
theorem dX7_writes_118 : decode cX7_writes 118 = .ok (.bipush 59, 2) := by decide +kernel
theorem dX7_writes_120 : decode cX7_writes 120 = .ok (.invokevirtual 188, 3) := by decide +kernel
theorem dX7_writes_123 : decode cX7_writes 123 = .ok (.iconst 0, 1) := by decide +kernel
theorem dX7_writes_124 : decode cX7_writes 124 = .ok (.istore_n 1, 1) := by decide +kernel
theorem dX7_writes_125 : decode cX7_writes 125 = .ok (.iload_n 1, 1) := by decide +kernel
theorem dX7_writes_126 : decode cX7_writes 126 = .ok (.bipush 7, 2) := by decide +kernel
theorem dX7_writes_128 : decode cX7_writes 128 = .ok (.if_icmp .ge 71, 3) := by decide +kernel
theorem dX7_writes_131 : decode cX7_writes 131 = .ok (.aload_n 0, 1) := by decide +kernel
theorem dX7_writes_132 : decode cX7_writes 132 = .ok (.getfield 7, 3) := by decide +kernel
theorem dX7_writes_135 : decode cX7_writes 135 = .ok (.bipush 7, 2) := by decide +kernel
theorem dX7_writes_137 : decode cX7_writes 137 = .ok (.iaload, 1) := by decide +kernel
theorem dX7_writes_138 : decode cX7_writes 138 = .ok (.iload_n 1, 1) := by decide +kernel
theorem dX7_writes_139 : decode cX7_writes 139 = .ok (.ishr, 1) := by decide +kernel
theorem dX7_writes_140 : decode cX7_writes 140 = .ok (.iconst 1, 1) := by decide +kernel
theorem dX7_writes_141 : decode cX7_writes 141 = .ok (.iand, 1) := by decide +kernel
theorem dX7_writes_142 : decode cX7_writes 142 = .ok (.ifCond .ne 6, 3) := by decide +kernel
theorem dX7_writes_145 : decode cX7_writes 145 = .ok (.goto 48, 3) := by decide +kernel
theorem dX7_writes_148 : decode cX7_writes 148 = .ok (.aload_n 0, 1) := by decide +kernel
theorem dX7_writes_149 : decode cX7_writes 149 = .ok (.iload_n 1, 1) := by decide +kernel
theorem dX7_writes_150 : decode cX7_writes 150 = .ok (.iconst 3, 1) := by decide +kernel
theorem dX7_writes_151 : decode cX7_writes 151 = .ok (.if_icmp .ge 9, 3) := by decide +kernel
theorem dX7_writes_154 : decode cX7_writes 154 = .ok (.ldc2_w 171, 3) := by decide +kernel
theorem dX7_writes_157 : decode cX7_writes 157 = .ok (.goto 6, 3) := by decide +kernel
theorem dX7_writes_160 : decode cX7_writes 160 = .ok (.ldc2_w 176, 3) := by decide +kernel
theorem dX7_writes_163 : decode cX7_writes 163 = .ok (.iconst 1, 1) := by decide +kernel
theorem dX7_writes_164 : decode cX7_writes 164 = .ok (.invokevirtual 196, 3) := by decide +kernel
theorem dX7_writes_167 : decode cX7_writes 167 = .ok (.iload_n 1, 1) := by decide +kernel
theorem dX7_writes_168 : decode cX7_writes 168 = .ok (.iconst 3, 1) := by decide +kernel
theorem dX7_writes_169 : decode cX7_writes 169 = .ok (.if_icmp .ge 11, 3) := by decide +kernel
theorem dX7_writes_172 : decode cX7_writes 172 = .ok (.aload_n 0, 1) := by decide +kernel
theorem dX7_writes_173 : decode cX7_writes 173 = .ok (.iload_n 1, 1) := by decide +kernel
theorem dX7_writes_174 : decode cX7_writes 174 = .ok (.invokevirtual 203, 3) := by decide +kernel
theorem dX7_writes_177 : decode cX7_writes 177 = .ok (.goto 10, 3) := by decide +kernel
theorem dX7_writes_180 : decode cX7_writes 180 = .ok (.aload_n 0, 1) := by decide +kernel
theorem dX7_writes_181 : decode cX7_writes 181 = .ok (.iload_n 1, 1) := by decide +kernel
theorem dX7_writes_182 : decode cX7_writes 182 = .ok (.iconst 3, 1) := by decide +kernel
theorem dX7_writes_183 : decode cX7_writes 183 = .ok (.isub, 1) := by decide +kernel
theorem dX7_writes_184 : decode cX7_writes 184 = .ok (.invokevirtual 193, 3) := by decide +kernel
theorem dX7_writes_187 : decode cX7_writes 187 = .ok (.aload_n 0, 1) := by decide +kernel
theorem dX7_writes_188 : decode cX7_writes 188 = .ok (.bipush 59, 2) := by decide +kernel
theorem dX7_writes_190 : decode cX7_writes 190 = .ok (.invokevirtual 188, 3) := by decide +kernel
theorem dX7_writes_193 : decode cX7_writes 193 = .ok (.iinc 1 1, 3) := by decide +kernel
theorem dX7_writes_196 : decode cX7_writes 196 = .ok (.goto (-71), 3) := by decide +kernel
theorem dX7_writes_199 : decode cX7_writes 199 = .ok (.iconst 0, 1) := by decide +kernel
theorem dX7_writes_200 : decode cX7_writes 200 = .ok (.istore_n 1, 1) := by decide +kernel
theorem dX7_writes_201 : decode cX7_writes 201 = .ok (.iload_n 1, 1) := by decide +kernel
theorem dX7_writes_202 : decode cX7_writes 202 = .ok (.bipush 7, 2) := by decide +kernel
theorem dX7_writes_204 : decode cX7_writes 204 = .ok (.if_icmp .ge 58, 3) := by decide +kernel
theorem dX7_writes_207 : decode cX7_writes 207 = .ok (.aload_n 0, 1) := by decide +kernel
theorem dX7_writes_208 : decode cX7_writes 208 = .ok (.getfield 7, 3) := by decide +kernel
theorem dX7_writes_211 : decode cX7_writes 211 = .ok (.bipush 8, 2) := by decide +kernel
theorem dX7_writes_213 : decode cX7_writes 213 = .ok (.iload_n 1, 1) := by decide +kernel
theorem dX7_writes_214 : decode cX7_writes 214 = .ok (.iadd, 1) := by decide +kernel
theorem dX7_writes_215 : decode cX7_writes 215 = .ok (.iaload, 1) := by decide +kernel
theorem dX7_writes_216 : decode cX7_writes 216 = .ok (.bipush 10, 2) := by decide +kernel
theorem dX7_writes_218 : decode cX7_writes 218 = .ok (.if_icmp .ne 6, 3) := by decide +kernel
theorem dX7_writes_221 : decode cX7_writes 221 = .ok (.goto 35, 3) := by decide +kernel
theorem dX7_writes_224 : decode cX7_writes 224 = .ok (.aload_n 0, 1) := by decide +kernel
theorem dX7_writes_225 : decode cX7_writes 225 = .ok (.ldc2_w 178, 3) := by decide +kernel
theorem dX7_writes_228 : decode cX7_writes 228 = .ok (.iconst 1, 1) := by decide +kernel
theorem dX7_writes_229 : decode cX7_writes 229 = .ok (.invokevirtual 196, 3) := by decide +kernel
theorem dX7_writes_232 : decode cX7_writes 232 = .ok (.aload_n 0, 1) := by decide +kernel
theorem dX7_writes_233 : decode cX7_writes 233 = .ok (.iload_n 1, 1) := by decide +kernel
theorem dX7_writes_234 : decode cX7_writes 234 = .ok (.invokevirtual 203, 3) := by decide +kernel
theorem dX7_writes_237 : decode cX7_writes 237 = .ok (.aload_n 0, 1) := by decide +kernel
theorem dX7_writes_238 : decode cX7_writes 238 = .ok (.aload_n 0, 1) := by decide +kernel
theorem dX7_writes_239 : decode cX7_writes 239 = .ok (.getfield 7, 3) := by decide +kernel
theorem dX7_writes_242 : decode cX7_writes 242 = .ok (.bipush 8, 2) := by decide +kernel
theorem dX7_writes_244 : decode cX7_writes 244 = .ok (.iload_n 1, 1) := by decide +kernel
theorem dX7_writes_245 : decode cX7_writes 245 = .ok (.iadd, 1) := by decide +kernel
theorem dX7_writes_246 : decode cX7_writes 246 = .ok (.iaload, 1) := by decide +kernel
theorem dX7_writes_247 : decode cX7_writes 247 = .ok (.invokevirtual 193, 3) := by decide +kernel
theorem dX7_writes_250 : decode cX7_writes 250 = .ok (.aload_n 0, 1) := by decide +kernel
theorem dX7_writes_251 : decode cX7_writes 251 = .ok (.bipush 59, 2) := by decide +kernel
theorem dX7_writes_253 : decode cX7_writes 253 = .ok (.invokevirtual 188, 3) := by decide +kernel
theorem dX7_writes_256 : decode cX7_writes 256 = .ok (.iinc 1 1, 3) := by decide +kernel
theorem dX7_writes_259 : decode cX7_writes 259 = .ok (.goto (-58), 3) := by decide +kernel
theorem dX7_writes_262 : decode cX7_writes 262 = .ok (.iconst 0, 1) := by decide +kernel
theorem dX7_writes_263 : decode cX7_writes 263 = .ok (.istore_n 1, 1) := by decide +kernel
theorem dX7_writes_264 : decode cX7_writes 264 = .ok (.iload_n 1, 1) := by decide +kernel
theorem dX7_writes_265 : decode cX7_writes 265 = .ok (.iconst 5, 1) := by decide +kernel
theorem dX7_writes_266 : decode cX7_writes 266 = .ok (.if_icmp .ge 67, 3) := by decide +kernel
theorem dX7_writes_269 : decode cX7_writes 269 = .ok (.iload_n 1, 1) := by decide +kernel
theorem dX7_writes_270 : decode cX7_writes 270 = .ok (.iconst 1, 1) := by decide +kernel
theorem dX7_writes_271 : decode cX7_writes 271 = .ok (.iadd, 1) := by decide +kernel
theorem dX7_writes_272 : decode cX7_writes 272 = .ok (.istore_n 2, 1) := by decide +kernel
theorem dX7_writes_273 : decode cX7_writes 273 = .ok (.iload_n 2, 1) := by decide +kernel
theorem dX7_writes_274 : decode cX7_writes 274 = .ok (.iconst 5, 1) := by decide +kernel
theorem dX7_writes_275 : decode cX7_writes 275 = .ok (.if_icmp .ge 52, 3) := by decide +kernel
theorem dX7_writes_278 : decode cX7_writes 278 = .ok (.aload_n 0, 1) := by decide +kernel
theorem dX7_writes_279 : decode cX7_writes 279 = .ok (.getfield 7, 3) := by decide +kernel
theorem dX7_writes_282 : decode cX7_writes 282 = .ok (.bipush 15, 2) := by decide +kernel
theorem dX7_writes_284 : decode cX7_writes 284 = .ok (.iload_n 1, 1) := by decide +kernel
theorem dX7_writes_285 : decode cX7_writes 285 = .ok (.iload_n 2, 1) := by decide +kernel
theorem dX7_writes_286 : decode cX7_writes 286 = .ok (.invokestatic 62, 3) := by decide +kernel
theorem dX7_writes_289 : decode cX7_writes 289 = .ok (.iadd, 1) := by decide +kernel
theorem dX7_writes_290 : decode cX7_writes 290 = .ok (.iaload, 1) := by decide +kernel
theorem dX7_writes_291 : decode cX7_writes 291 = .ok (.ifCond .ne 6, 3) := by decide +kernel
theorem dX7_writes_294 : decode cX7_writes 294 = .ok (.goto 27, 3) := by decide +kernel
theorem dX7_writes_297 : decode cX7_writes 297 = .ok (.aload_n 0, 1) := by decide +kernel
theorem dX7_writes_298 : decode cX7_writes 298 = .ok (.ldc2_w 180, 3) := by decide +kernel
theorem dX7_writes_301 : decode cX7_writes 301 = .ok (.iconst 1, 1) := by decide +kernel
theorem dX7_writes_302 : decode cX7_writes 302 = .ok (.invokevirtual 196, 3) := by decide +kernel
theorem dX7_writes_305 : decode cX7_writes 305 = .ok (.aload_n 0, 1) := by decide +kernel
theorem dX7_writes_306 : decode cX7_writes 306 = .ok (.iload_n 1, 1) := by decide +kernel
theorem dX7_writes_307 : decode cX7_writes 307 = .ok (.invokevirtual 193, 3) := by decide +kernel
theorem dX7_writes_310 : decode cX7_writes 310 = .ok (.aload_n 0, 1) := by decide +kernel
theorem dX7_writes_311 : decode cX7_writes 311 = .ok (.iload_n 2, 1) := by decide +kernel
theorem dX7_writes_312 : decode cX7_writes 312 = .ok (.invokevirtual 193, 3) := by decide +kernel
theorem dX7_writes_315 : decode cX7_writes 315 = .ok (.aload_n 0, 1) := by decide +kernel
theorem dX7_writes_316 : decode cX7_writes 316 = .ok (.bipush 59, 2) := by decide +kernel
theorem dX7_writes_318 : decode cX7_writes 318 = .ok (.invokevirtual 188, 3) := by decide +kernel
theorem dX7_writes_321 : decode cX7_writes 321 = .ok (.iinc 2 1, 3) := by decide +kernel
theorem dX7_writes_324 : decode cX7_writes 324 = .ok (.goto (-51), 3) := by decide +kernel
theorem dX7_writes_327 : decode cX7_writes 327 = .ok (.iinc 1 1, 3) := by decide +kernel
theorem dX7_writes_330 : decode cX7_writes 330 = .ok (.goto (-66), 3) := by decide +kernel
theorem dX7_writes_333 : decode cX7_writes 333 = .ok (.return_, 1) := by decide +kernel
set_option maxRecDepth 20000 in
theorem ggX7_text_X7_writes : GoodIn wsX7_text wsX7_writes := goodIn_r _ [7, 1, 8, 9, 10, 11, 12, 13, 14, 15, 16, 17, 18, 19, 6, 20, 21, 22, 23, 24, 25, 2, 26, 27, 28, 29, 30, 31, 32, 33, 34, 35, 36, 37, 38, 39, 40, 41, 42, 43, 44, 45, 46, 47, 48, 49, 50, 54, 55, 56, 57, 58, 59, 60, 61, 62, 63, 64, 65, 66, 67, 68, 69, 70, 71] (by decide +kernel) (by decide +kernel)
set_option maxRecDepth 20000 in
theorem gX7_text_X7_writes : GoodIn wsX7_text (wsV RX7 206 RX7 yX7_writes wsX7_writes) := goodIn_app (goodIn_of _ (by decide +kernel)) ggX7_text_X7_writes
set_option maxRecDepth 20000 in
theorem ggX7_text_X7_isIn : GoodIn wsX7_text wsX7_isIn := goodIn_r _ [53] (by decide +kernel) (by decide +kernel)
set_option maxRecDepth 20000 in
theorem gX7_text_X7_isIn : GoodIn wsX7_text (va_wsS RX7 37 yX7_isIn wsX7_isIn) := goodIn_app (goodIn_of _ (by decide +kernel)) ggX7_text_X7_isIn
theorem dX7_text_0 : decode cX7_text 0 = .ok (.aload_n 0, 1) := by decide +kernel
theorem dX7_text_1 : decode cX7_text 1 = .ok (.invokevirtual 206, 3) := by decide +kernel
theorem dX7_text_4 : decode cX7_text 4 = .ok (.iload_n 1, 1) := by decide +kernel
theorem dX7_text_5 : decode cX7_text 5 = .ok (.iconst (-1), 1) := by decide +kernel
theorem dX7_text_6 : decode cX7_text 6 = .ok (.if_icmp .ne 10, 3) := by decide +kernel
theorem dX7_text_9 : decode cX7_text 9 = .ok (.aload_n 0, 1) := by decide +kernel
theorem dX7_text_10 : decode cX7_text 10 = .ok (.getfield 185, 3) := by decide +kernel
theorem dX7_text_13 : decode cX7_text 13 = .ok (.goto 27, 3) := by decide +kernel
theorem dX7_text_16 : decode cX7_text 16 = .ok (.iload_n 1, 1) := by decide +kernel
theorem dX7_text_17 : decode cX7_text 17 = .ok (.iconst 0, 1) := by decide +kernel
theorem dX7_text_18 : decode cX7_text 18 = .ok (.aload_n 0, 1) := by decide +kernel
theorem dX7_text_19 : decode cX7_text 19 = .ok (.getfield 185, 3) := by decide +kernel
theorem dX7_text_22 : decode cX7_text 22 = .ok (.iconst 1, 1) := by decide +kernel
theorem dX7_text_23 : decode cX7_text 23 = .ok (.isub, 1) := by decide +kernel
theorem dX7_text_24 : decode cX7_text 24 = .ok (.invokestatic 37, 3) := by decide +kernel
theorem dX7_text_27 : decode cX7_text 27 = .ok (.ifCond .eq 12, 3) := by decide +kernel
theorem dX7_text_30 : decode cX7_text 30 = .ok (.aload_n 0, 1) := by decide +kernel
theorem dX7_text_31 : decode cX7_text 31 = .ok (.getfield 27, 3) := by decide +kernel
theorem dX7_text_34 : decode cX7_text 34 = .ok (.iload_n 1, 1) := by decide +kernel
theorem dX7_text_35 : decode cX7_text 35 = .ok (.baload, 1) := by decide +kernel
theorem dX7_text_36 : decode cX7_text 36 = .ok (.goto 4, 3) := by decide +kernel
theorem dX7_text_39 : decode cX7_text 39 = .ok (.iconst (-1), 1) := by decide +kernel
theorem dX7_text_40 : decode cX7_text 40 = .ok (.ireturn, 1) := by decide +kernel
theorem dJ6_bitCount_0f7a4_0 : decode cJ6_bitCount_0f7a4 0 = .ok (.iload_n 0, 1) := by decide +kernel
theorem dJ6_bitCount_0f7a4_1 : decode cJ6_bitCount_0f7a4 1 = .ok (.iload_n 0, 1) := by decide +kernel
theorem dJ6_bitCount_0f7a4_2 : decode cJ6_bitCount_0f7a4 2 = .ok (.iconst 1, 1) := by decide +kernel
theorem dJ6_bitCount_0f7a4_3 : decode cJ6_bitCount_0f7a4 3 = .ok (.iushr, 1) := by decide +kernel
theorem dJ6_bitCount_0f7a4_4 : decode cJ6_bitCount_0f7a4 4 = .ok (.ldc_w 265, 3) := by decide +kernel
theorem dJ6_bitCount_0f7a4_7 : decode cJ6_bitCount_0f7a4 7 = .ok (.iand, 1) := by decide +kernel
theorem dJ6_bitCount_0f7a4_8 : decode cJ6_bitCount_0f7a4 8 = .ok (.isub, 1) := by decide +kernel
theorem dJ6_bitCount_0f7a4_9 : decode cJ6_bitCount_0f7a4 9 = .ok (.istore_n 0, 1) := by decide +kernel
theorem dJ6_bitCount_0f7a4_10 : decode cJ6_bitCount_0f7a4 10 = .ok (.iload_n 0, 1) := by decide +kernel
theorem dJ6_bitCount_0f7a4_11 : decode cJ6_bitCount_0f7a4 11 = .ok (.ldc_w 266, 3) := by decide +kernel
theorem dJ6_bitCount_0f7a4_14 : decode cJ6_bitCount_0f7a4 14 = .ok (.iand, 1) := by decide +kernel
theorem dJ6_bitCount_0f7a4_15 : decode cJ6_bitCount_0f7a4 15 = .ok (.iload_n 0, 1) := by decide +kernel
theorem dJ6_bitCount_0f7a4_16 : decode cJ6_bitCount_0f7a4 16 = .ok (.iconst 2, 1) := by decide +kernel
theorem dJ6_bitCount_0f7a4_17 : decode cJ6_bitCount_0f7a4 17 = .ok (.iushr, 1) := by decide +kernel
theorem dJ6_bitCount_0f7a4_18 : decode cJ6_bitCount_0f7a4 18 = .ok (.ldc_w 266, 3) := by decide +kernel
theorem dJ6_bitCount_0f7a4_21 : decode cJ6_bitCount_0f7a4 21 = .ok (.iand, 1) := by decide +kernel
theorem dJ6_bitCount_0f7a4_22 : decode cJ6_bitCount_0f7a4 22 = .ok (.iadd, 1) := by decide +kernel
theorem dJ6_bitCount_0f7a4_23 : decode cJ6_bitCount_0f7a4 23 = .ok (.istore_n 0, 1) := by decide +kernel
theorem dJ6_bitCount_0f7a4_24 : decode cJ6_bitCount_0f7a4 24 = .ok (.iload_n 0, 1) := by decide +kernel
theorem dJ6_bitCount_0f7a4_25 : decode cJ6_bitCount_0f7a4 25 = .ok (.iload_n 0, 1) := by decide +kernel
theorem dJ6_bitCount_0f7a4_26 : decode cJ6_bitCount_0f7a4 26 = .ok (.iconst 4, 1) := by decide +kernel
theorem dJ6_bitCount_0f7a4_27 : decode cJ6_bitCount_0f7a4 27 = .ok (.iushr, 1) := by decide +kernel
theorem dJ6_bitCount_0f7a4_28 : decode cJ6_bitCount_0f7a4 28 = .ok (.iadd, 1) := by decide +kernel
theorem dJ6_bitCount_0f7a4_29 : decode cJ6_bitCount_0f7a4 29 = .ok (.ldc_w 267, 3) := by decide +kernel
theorem dJ6_bitCount_0f7a4_32 : decode cJ6_bitCount_0f7a4 32 = .ok (.iand, 1) := by decide +kernel
theorem dJ6_bitCount_0f7a4_33 : decode cJ6_bitCount_0f7a4 33 = .ok (.istore_n 0, 1) := by decide +kernel
theorem dJ6_bitCount_0f7a4_34 : decode cJ6_bitCount_0f7a4 34 = .ok (.iload_n 0, 1) := by decide +kernel
theorem dJ6_bitCount_0f7a4_35 : decode cJ6_bitCount_0f7a4 35 = .ok (.iload_n 0, 1) := by decide +kernel
theorem dJ6_bitCount_0f7a4_36 : decode cJ6_bitCount_0f7a4 36 = .ok (.bipush 8, 2) := by decide +kernel
theorem dJ6_bitCount_0f7a4_38 : decode cJ6_bitCount_0f7a4 38 = .ok (.iushr, 1) := by decide +kernel
theorem dJ6_bitCount_0f7a4_39 : decode cJ6_bitCount_0f7a4 39 = .ok (.iadd, 1) := by decide +kernel
theorem dJ6_bitCount_0f7a4_40 : decode cJ6_bitCount_0f7a4 40 = .ok (.istore_n 0, 1) := by decide +kernel
theorem dJ6_bitCount_0f7a4_41 : decode cJ6_bitCount_0f7a4 41 = .ok (.iload_n 0, 1) := by decide +kernel
theorem dJ6_bitCount_0f7a4_42 : decode cJ6_bitCount_0f7a4 42 = .ok (.iload_n 0, 1) := by decide +kernel
theorem dJ6_bitCount_0f7a4_43 : decode cJ6_bitCount_0f7a4 43 = .ok (.bipush 16, 2) := by decide +kernel
theorem dJ6_bitCount_0f7a4_45 : decode cJ6_bitCount_0f7a4 45 = .ok (.iushr, 1) := by decide +kernel
theorem dJ6_bitCount_0f7a4_46 : decode cJ6_bitCount_0f7a4 46 = .ok (.iadd, 1) := by decide +kernel
theorem dJ6_bitCount_0f7a4_47 : decode cJ6_bitCount_0f7a4 47 = .ok (.istore_n 0, 1) := by decide +kernel
theorem dJ6_bitCount_0f7a4_48 : decode cJ6_bitCount_0f7a4 48 = .ok (.iload_n 0, 1) := by decide +kernel
theorem dJ6_bitCount_0f7a4_49 : decode cJ6_bitCount_0f7a4 49 = .ok (.bipush 63, 2) := by decide +kernel
theorem dJ6_bitCount_0f7a4_51 : decode cJ6_bitCount_0f7a4 51 = .ok (.iand, 1) := by decide +kernel
theorem dJ6_bitCount_0f7a4_52 : decode cJ6_bitCount_0f7a4 52 = .ok (.ireturn, 1) := by decide +kernel
theorem dJ9_max_7cf53_0 : decode cJ9_max_7cf53 0 = .ok (.iload_n 0, 1) := by decide +kernel
theorem dJ9_max_7cf53_1 : decode cJ9_max_7cf53 1 = .ok (.iload_n 1, 1) := by decide +kernel
theorem dJ9_max_7cf53_2 : decode cJ9_max_7cf53 2 = .ok (.if_icmp .lt 7, 3) := by decide +kernel
theorem dJ9_max_7cf53_5 : decode cJ9_max_7cf53 5 = .ok (.iload_n 0, 1) := by decide +kernel
theorem dJ9_max_7cf53_6 : decode cJ9_max_7cf53 6 = .ok (.goto 4, 3) := by decide +kernel
theorem dJ9_max_7cf53_9 : decode cJ9_max_7cf53 9 = .ok (.iload_n 1, 1) := by decide +kernel
theorem dJ9_max_7cf53_10 : decode cJ9_max_7cf53 10 = .ok (.ireturn, 1) := by decide +kernel
theorem dJ9_min_7cf53_0 : decode cJ9_min_7cf53 0 = .ok (.iload_n 0, 1) := by decide +kernel
theorem dJ9_min_7cf53_1 : decode cJ9_min_7cf53 1 = .ok (.iload_n 1, 1) := by decide +kernel
theorem dJ9_min_7cf53_2 : decode cJ9_min_7cf53 2 = .ok (.if_icmp .gt 7, 3) := by decide +kernel
theorem dJ9_min_7cf53_5 : decode cJ9_min_7cf53 5 = .ok (.iload_n 0, 1) := by decide +kernel
theorem dJ9_min_7cf53_6 : decode cJ9_min_7cf53 6 = .ok (.goto 4, 3) := by decide +kernel
theorem dJ9_min_7cf53_9 : decode cJ9_min_7cf53 9 = .ok (.iload_n 1, 1) := by decide +kernel
theorem dJ9_min_7cf53_10 : decode cJ9_min_7cf53 10 = .ok (.ireturn, 1) := by decide +kernel
set_option maxRecDepth 20000 in
theorem ggJ0_length_8abf5_J0_coder_7d493 : GoodIn wsJ0_length_8abf5 wsJ0_coder_7d493 := goodIn_r _ [6, 7, 8] (by decide +kernel) (by decide +kernel)
set_option maxRecDepth 20000 in
theorem gJ0_length_8abf5_J0_coder_7d493 : GoodIn wsJ0_length_8abf5 (wsV RJ0 335 RJ0 yJ0_coder_7d493 wsJ0_coder_7d493) := goodIn_app (goodIn_of _ (by decide +kernel)) ggJ0_length_8abf5_J0_coder_7d493
theorem dJ0_length_8abf5_0 : decode cJ0_length_8abf5 0 = .ok (.aload_n 0, 1) := by decide +kernel
theorem dJ0_length_8abf5_1 : decode cJ0_length_8abf5 1 = .ok (.getfield 9, 3) := by decide +kernel
theorem dJ0_length_8abf5_4 : decode cJ0_length_8abf5 4 = .ok (.arraylength, 1) := by decide +kernel
theorem dJ0_length_8abf5_5 : decode cJ0_length_8abf5 5 = .ok (.aload_n 0, 1) := by decide +kernel
theorem dJ0_length_8abf5_6 : decode cJ0_length_8abf5 6 = .ok (.invokevirtual 335, 3) := by decide +kernel
theorem dJ0_length_8abf5_9 : decode cJ0_length_8abf5 9 = .ok (.ishr, 1) := by decide +kernel
theorem dJ0_length_8abf5_10 : decode cJ0_length_8abf5 10 = .ok (.ireturn, 1) := by decide +kernel
set_option maxRecDepth 20000 in
theorem ggJ0_charAt_5068e_J0_isLatin1_aae02 : GoodIn wsJ0_charAt_5068e wsJ0_isLatin1_aae02 := goodIn_r _ [6, 7, 8] (by decide +kernel) (by decide +kernel)
set_option maxRecDepth 20000 in
theorem gJ0_charAt_5068e_J0_isLatin1_aae02 : GoodIn wsJ0_charAt_5068e (wsV RJ0 492 RJ0 yJ0_isLatin1_aae02 wsJ0_isLatin1_aae02) := goodIn_app (goodIn_of _ (by decide +kernel)) ggJ0_charAt_5068e_J0_isLatin1_aae02
set_option maxRecDepth 20000 in
theorem ggJ0_charAt_5068e_J1_charAt_3b067 : GoodIn wsJ0_charAt_5068e wsJ1_charAt_3b067 := goodIn_r _ [12, 13, 14, 5, 15, 16, 17, 18, 19, 20] (by decide +kernel) (by decide +kernel)
set_option maxRecDepth 20000 in
theorem gJ0_charAt_5068e_J1_charAt_3b067 : GoodIn wsJ0_charAt_5068e (va_wsS RJ0 495 yJ1_charAt_3b067 wsJ1_charAt_3b067) := goodIn_app (goodIn_of _ (by decide +kernel)) ggJ0_charAt_5068e_J1_charAt_3b067
set_option maxRecDepth 20000 in
theorem ggJ0_charAt_5068e_J2_charAt_3b067 : GoodIn wsJ0_charAt_5068e wsJ2_charAt_3b067 := goodIn_r _ [24, 25, 26, 23, 27, 28, 29, 30, 31, 14, 5, 15, 16, 17, 18, 19, 20, 32, 33, 34, 35, 36, 37] (by decide +kernel) (by decide +kernel)
set_option maxRecDepth 20000 in
theorem gJ0_charAt_5068e_J2_charAt_3b067 : GoodIn wsJ0_charAt_5068e (va_wsS RJ0 498 yJ2_charAt_3b067 wsJ2_charAt_3b067) := goodIn_app (goodIn_of _ (by decide +kernel)) ggJ0_charAt_5068e_J2_charAt_3b067
theorem dJ0_charAt_5068e_0 : decode cJ0_charAt_5068e 0 = .ok (.aload_n 0, 1) := by decide +kernel
theorem dJ0_charAt_5068e_1 : decode cJ0_charAt_5068e 1 = .ok (.invokevirtual 492, 3) := by decide +kernel
theorem dJ0_charAt_5068e_4 : decode cJ0_charAt_5068e 4 = .ok (.ifCond .eq 12, 3) := by decide +kernel
theorem dJ0_charAt_5068e_7 : decode cJ0_charAt_5068e 7 = .ok (.aload_n 0, 1) := by decide +kernel
theorem dJ0_charAt_5068e_8 : decode cJ0_charAt_5068e 8 = .ok (.getfield 9, 3) := by decide +kernel
theorem dJ0_charAt_5068e_11 : decode cJ0_charAt_5068e 11 = .ok (.iload_n 1, 1) := by decide +kernel
theorem dJ0_charAt_5068e_12 : decode cJ0_charAt_5068e 12 = .ok (.invokestatic 495, 3) := by decide +kernel
theorem dJ0_charAt_5068e_15 : decode cJ0_charAt_5068e 15 = .ok (.ireturn, 1) := by decide +kernel
theorem dJ0_charAt_5068e_16 : decode cJ0_charAt_5068e 16 = .ok (.aload_n 0, 1) := by decide +kernel
theorem dJ0_charAt_5068e_17 : decode cJ0_charAt_5068e 17 = .ok (.getfield 9, 3) := by decide +kernel
theorem dJ0_charAt_5068e_20 : decode cJ0_charAt_5068e 20 = .ok (.iload_n 1, 1) := by decide +kernel
theorem dJ0_charAt_5068e_21 : decode cJ0_charAt_5068e 21 = .ok (.invokestatic 498, 3) := by decide +kernel
theorem dJ0_charAt_5068e_24 : decode cJ0_charAt_5068e 24 = .ok (.ireturn, 1) := by decide +kernel
theorem dJ0_coder_7d493_0 : decode cJ0_coder_7d493 0 = .ok (.getstatic 38, 3) := by decide +kernel
theorem dJ0_coder_7d493_3 : decode cJ0_coder_7d493 3 = .ok (.ifCond .eq 10, 3) := by decide +kernel
theorem dJ0_coder_7d493_6 : decode cJ0_coder_7d493 6 = .ok (.aload_n 0, 1) := by decide +kernel
theorem dJ0_coder_7d493_7 : decode cJ0_coder_7d493 7 = .ok (.getfield 15, 3) := by decide +kernel
theorem dJ0_coder_7d493_10 : decode cJ0_coder_7d493 10 = .ok (.goto 4, 3) := by decide +kernel
theorem dJ0_coder_7d493_13 : decode cJ0_coder_7d493 13 = .ok (.iconst 1, 1) := by decide +kernel
theorem dJ0_coder_7d493_14 : decode cJ0_coder_7d493 14 = .ok (.ireturn, 1) := by decide +kernel
theorem dJ0_isLatin1_aae02_0 : decode cJ0_isLatin1_aae02 0 = .ok (.getstatic 38, 3) := by decide +kernel
theorem dJ0_isLatin1_aae02_3 : decode cJ0_isLatin1_aae02 3 = .ok (.ifCond .eq 14, 3) := by decide +kernel
theorem dJ0_isLatin1_aae02_6 : decode cJ0_isLatin1_aae02 6 = .ok (.aload_n 0, 1) := by decide +kernel
theorem dJ0_isLatin1_aae02_7 : decode cJ0_isLatin1_aae02 7 = .ok (.getfield 15, 3) := by decide +kernel
theorem dJ0_isLatin1_aae02_10 : decode cJ0_isLatin1_aae02 10 = .ok (.ifCond .ne 7, 3) := by decide +kernel
theorem dJ0_isLatin1_aae02_13 : decode cJ0_isLatin1_aae02 13 = .ok (.iconst 1, 1) := by decide +kernel
theorem dJ0_isLatin1_aae02_14 : decode cJ0_isLatin1_aae02 14 = .ok (.goto 4, 3) := by decide +kernel
theorem dJ0_isLatin1_aae02_17 : decode cJ0_isLatin1_aae02 17 = .ok (.iconst 0, 1) := by decide +kernel
theorem dJ0_isLatin1_aae02_18 : decode cJ0_isLatin1_aae02 18 = .ok (.ireturn, 1) := by decide +kernel
set_option maxRecDepth 20000 in
theorem ggJ0_checkIndex_df160_J3_checkIndex_8e157 : GoodIn wsJ0_checkIndex_df160 wsJ3_checkIndex_8e157 := goodIn_r _ [5] (by decide +kernel) (by decide +kernel)
set_option maxRecDepth 20000 in
theorem gJ0_checkIndex_df160_J3_checkIndex_8e157 : GoodIn wsJ0_checkIndex_df160 (va_wsS RJ0 1059 yJ3_checkIndex_8e157 wsJ3_checkIndex_8e157) := goodIn_app (goodIn_of _ (by decide +kernel)) ggJ0_checkIndex_df160_J3_checkIndex_8e157
theorem dJ0_checkIndex_df160_0 : decode cJ0_checkIndex_df160 0 = .ok (.iload_n 0, 1) := by decide +kernel
theorem dJ0_checkIndex_df160_1 : decode cJ0_checkIndex_df160 1 = .ok (.iload_n 1, 1) := by decide +kernel
theorem dJ0_checkIndex_df160_2 : decode cJ0_checkIndex_df160 2 = .ok (.getstatic 1053, 3) := by decide +kernel
theorem dJ0_checkIndex_df160_5 : decode cJ0_checkIndex_df160 5 = .ok (.invokestatic 1059, 3) := by decide +kernel
theorem dJ0_checkIndex_df160_8 : decode cJ0_checkIndex_df160 8 = .ok (.pop, 1) := by decide +kernel
theorem dJ0_checkIndex_df160_9 : decode cJ0_checkIndex_df160 9 = .ok (.return_, 1) := by decide +kernel
set_option maxRecDepth 20000 in
theorem ggJ1_charAt_3b067_J0_checkIndex_df160 : GoodIn wsJ1_charAt_3b067 wsJ0_checkIndex_df160 := goodIn_r _ [4, 5, 6, 7, 8, 9] (by decide +kernel) (by decide +kernel)
set_option maxRecDepth 20000 in
theorem gJ1_charAt_3b067_J0_checkIndex_df160 : GoodIn wsJ1_charAt_3b067 (va_wsS RJ1 9 yJ0_checkIndex_df160 wsJ0_checkIndex_df160) := goodIn_app (goodIn_of _ (by decide +kernel)) ggJ1_charAt_3b067_J0_checkIndex_df160
theorem dJ1_charAt_3b067_0 : decode cJ1_charAt_3b067 0 = .ok (.iload_n 1, 1) := by decide +kernel
theorem dJ1_charAt_3b067_1 : decode cJ1_charAt_3b067 1 = .ok (.aload_n 0, 1) := by decide +kernel
theorem dJ1_charAt_3b067_2 : decode cJ1_charAt_3b067 2 = .ok (.arraylength, 1) := by decide +kernel
theorem dJ1_charAt_3b067_3 : decode cJ1_charAt_3b067 3 = .ok (.invokestatic 9, 3) := by decide +kernel
theorem dJ1_charAt_3b067_6 : decode cJ1_charAt_3b067 6 = .ok (.aload_n 0, 1) := by decide +kernel
theorem dJ1_charAt_3b067_7 : decode cJ1_charAt_3b067 7 = .ok (.iload_n 1, 1) := by decide +kernel
theorem dJ1_charAt_3b067_8 : decode cJ1_charAt_3b067 8 = .ok (.baload, 1) := by decide +kernel
theorem dJ1_charAt_3b067_9 : decode cJ1_charAt_3b067 9 = .ok (.sipush 255, 3) := by decide +kernel
theorem dJ1_charAt_3b067_12 : decode cJ1_charAt_3b067 12 = .ok (.iand, 1) := by decide +kernel
theorem dJ1_charAt_3b067_13 : decode cJ1_charAt_3b067 13 = .ok (.i2c, 1) := by decide +kernel
theorem dJ1_charAt_3b067_14 : decode cJ1_charAt_3b067 14 = .ok (.ireturn, 1) := by decide +kernel
set_option maxRecDepth 20000 in
theorem ggJ2_getChar_3b067_J2_length_9d52b : GoodIn wsJ2_getChar_3b067 wsJ2_length_9d52b := goodIn_r _ [7] (by decide +kernel) (by decide +kernel)
set_option maxRecDepth 20000 in
theorem gJ2_getChar_3b067_J2_length_9d52b : GoodIn wsJ2_getChar_3b067 (va_wsS RJ2 48 yJ2_length_9d52b wsJ2_length_9d52b) := goodIn_app (goodIn_of _ (by decide +kernel)) ggJ2_getChar_3b067_J2_length_9d52b
theorem dJ2_getChar_3b067_0 : decode cJ2_getChar_3b067 0 = .ok (.getstatic 44, 3) := by decide +kernel
theorem dJ2_getChar_3b067_3 : decode cJ2_getChar_3b067 3 = .ok (.ifCond .ne 25, 3) := by decide +kernel
theorem dJ2_getChar_3b067_6 : decode cJ2_getChar_3b067 6 = .ok (.iload_n 1, 1) := by decide +kernel
theorem dJ2_getChar_3b067_7 : decode cJ2_getChar_3b067 7 = .ok (.ifCond .lt 11, 3) := by decide +kernel
theorem dJ2_getChar_3b067_10 : decode cJ2_getChar_3b067 10 = .ok (.iload_n 1, 1) := by decide +kernel
theorem dJ2_getChar_3b067_11 : decode cJ2_getChar_3b067 11 = .ok (.aload_n 0, 1) := by decide +kernel
theorem dJ2_getChar_3b067_12 : decode cJ2_getChar_3b067 12 = .ok (.invokestatic 48, 3) := by decide +kernel
theorem dJ2_getChar_3b067_15 : decode cJ2_getChar_3b067 15 = .ok (.if_icmp .lt 13, 3) := by decide +kernel
theorem dJ2_getChar_3b067_18 : decode cJ2_getChar_3b067 18 = .ok (.new 52, 3) := by decide +kernel
theorem dJ2_getChar_3b067_21 : decode cJ2_getChar_3b067 21 = .ok (.dup, 1) := by decide +kernel
theorem dJ2_getChar_3b067_22 : decode cJ2_getChar_3b067 22 = .ok (.ldc 54, 2) := by decide +kernel
theorem dJ2_getChar_3b067_24 : decode cJ2_getChar_3b067 24 = .ok (.invokespecial 56, 3) := by decide +kernel
theorem dJ2_getChar_3b067_27 : decode cJ2_getChar_3b067 27 = .ok (.athrow, 1) := by decide +kernel
theorem dJ2_getChar_3b067_28 : decode cJ2_getChar_3b067 28 = .ok (.iload_n 1, 1) := by decide +kernel
theorem dJ2_getChar_3b067_29 : decode cJ2_getChar_3b067 29 = .ok (.iconst 1, 1) := by decide +kernel
theorem dJ2_getChar_3b067_30 : decode cJ2_getChar_3b067 30 = .ok (.ishl, 1) := by decide +kernel
theorem dJ2_getChar_3b067_31 : decode cJ2_getChar_3b067 31 = .ok (.istore_n 1, 1) := by decide +kernel
theorem dJ2_getChar_3b067_32 : decode cJ2_getChar_3b067 32 = .ok (.aload_n 0, 1) := by decide +kernel
theorem dJ2_getChar_3b067_33 : decode cJ2_getChar_3b067 33 = .ok (.iload_n 1, 1) := by decide +kernel
theorem dJ2_getChar_3b067_34 : decode cJ2_getChar_3b067 34 = .ok (.iinc 1 1, 3) := by decide +kernel
theorem dJ2_getChar_3b067_37 : decode cJ2_getChar_3b067 37 = .ok (.baload, 1) := by decide +kernel
theorem dJ2_getChar_3b067_38 : decode cJ2_getChar_3b067 38 = .ok (.sipush 255, 3) := by decide +kernel
theorem dJ2_getChar_3b067_41 : decode cJ2_getChar_3b067 41 = .ok (.iand, 1) := by decide +kernel
theorem dJ2_getChar_3b067_42 : decode cJ2_getChar_3b067 42 = .ok (.getstatic 59, 3) := by decide +kernel
theorem dJ2_getChar_3b067_45 : decode cJ2_getChar_3b067 45 = .ok (.ishl, 1) := by decide +kernel
theorem dJ2_getChar_3b067_46 : decode cJ2_getChar_3b067 46 = .ok (.aload_n 0, 1) := by decide +kernel
theorem dJ2_getChar_3b067_47 : decode cJ2_getChar_3b067 47 = .ok (.iload_n 1, 1) := by decide +kernel
theorem dJ2_getChar_3b067_48 : decode cJ2_getChar_3b067 48 = .ok (.baload, 1) := by decide +kernel
theorem dJ2_getChar_3b067_49 : decode cJ2_getChar_3b067 49 = .ok (.sipush 255, 3) := by decide +kernel
theorem dJ2_getChar_3b067_52 : decode cJ2_getChar_3b067 52 = .ok (.iand, 1) := by decide +kernel
theorem dJ2_getChar_3b067_53 : decode cJ2_getChar_3b067 53 = .ok (.getstatic 63, 3) := by decide +kernel
theorem dJ2_getChar_3b067_56 : decode cJ2_getChar_3b067 56 = .ok (.ishl, 1) := by decide +kernel
theorem dJ2_getChar_3b067_57 : decode cJ2_getChar_3b067 57 = .ok (.ior, 1) := by decide +kernel
theorem dJ2_getChar_3b067_58 : decode cJ2_getChar_3b067 58 = .ok (.i2c, 1) := by decide +kernel
theorem dJ2_getChar_3b067_59 : decode cJ2_getChar_3b067 59 = .ok (.ireturn, 1) := by decide +kernel
theorem dJ2_length_9d52b_0 : decode cJ2_length_9d52b 0 = .ok (.aload_n 0, 1) := by decide +kernel
theorem dJ2_length_9d52b_1 : decode cJ2_length_9d52b 1 = .ok (.arraylength, 1) := by decide +kernel
theorem dJ2_length_9d52b_2 : decode cJ2_length_9d52b 2 = .ok (.iconst 1, 1) := by decide +kernel
theorem dJ2_length_9d52b_3 : decode cJ2_length_9d52b 3 = .ok (.ishr, 1) := by decide +kernel
theorem dJ2_length_9d52b_4 : decode cJ2_length_9d52b 4 = .ok (.ireturn, 1) := by decide +kernel
set_option maxRecDepth 20000 in
theorem ggJ2_charAt_3b067_J2_checkIndex_2214a : GoodIn wsJ2_charAt_3b067 wsJ2_checkIndex_2214a := goodIn_r _ [4, 5, 6, 3, 7, 8, 9, 10, 11, 12, 13, 14, 15, 16] (by decide +kernel) (by decide +kernel)
set_option maxRecDepth 20000 in
theorem gJ2_charAt_3b067_J2_checkIndex_2214a : GoodIn wsJ2_charAt_3b067 (va_wsS RJ2 67 yJ2_checkIndex_2214a wsJ2_checkIndex_2214a) := goodIn_app (goodIn_of _ (by decide +kernel)) ggJ2_charAt_3b067_J2_checkIndex_2214a
set_option maxRecDepth 20000 in
theorem ggJ2_charAt_3b067_J2_getChar_3b067 : GoodIn wsJ2_charAt_3b067 wsJ2_getChar_3b067 := goodIn_r _ [19, 20, 21, 22, 5, 6, 3, 7] (by decide +kernel) (by decide +kernel)
set_option maxRecDepth 20000 in
theorem gJ2_charAt_3b067_J2_getChar_3b067 : GoodIn wsJ2_charAt_3b067 (va_wsS RJ2 71 yJ2_getChar_3b067 wsJ2_getChar_3b067) := goodIn_app (goodIn_of _ (by decide +kernel)) ggJ2_charAt_3b067_J2_getChar_3b067
theorem dJ2_charAt_3b067_0 : decode cJ2_charAt_3b067 0 = .ok (.iload_n 1, 1) := by decide +kernel
theorem dJ2_charAt_3b067_1 : decode cJ2_charAt_3b067 1 = .ok (.aload_n 0, 1) := by decide +kernel
theorem dJ2_charAt_3b067_2 : decode cJ2_charAt_3b067 2 = .ok (.invokestatic 67, 3) := by decide +kernel
theorem dJ2_charAt_3b067_5 : decode cJ2_charAt_3b067 5 = .ok (.aload_n 0, 1) := by decide +kernel
theorem dJ2_charAt_3b067_6 : decode cJ2_charAt_3b067 6 = .ok (.iload_n 1, 1) := by decide +kernel
theorem dJ2_charAt_3b067_7 : decode cJ2_charAt_3b067 7 = .ok (.invokestatic 71, 3) := by decide +kernel
theorem dJ2_charAt_3b067_10 : decode cJ2_charAt_3b067 10 = .ok (.ireturn, 1) := by decide +kernel
set_option maxRecDepth 20000 in
theorem ggJ2_checkIndex_2214a_J2_length_9d52b : GoodIn wsJ2_checkIndex_2214a wsJ2_length_9d52b := goodIn_r _ [4] (by decide +kernel) (by decide +kernel)
set_option maxRecDepth 20000 in
theorem gJ2_checkIndex_2214a_J2_length_9d52b : GoodIn wsJ2_checkIndex_2214a (va_wsS RJ2 48 yJ2_length_9d52b wsJ2_length_9d52b) := goodIn_app (goodIn_of _ (by decide +kernel)) ggJ2_checkIndex_2214a_J2_length_9d52b
set_option maxRecDepth 20000 in
theorem ggJ2_checkIndex_2214a_J0_checkIndex_df160 : GoodIn wsJ2_checkIndex_2214a wsJ0_checkIndex_df160 := goodIn_r _ [8, 9, 10, 11, 12, 13] (by decide +kernel) (by decide +kernel)
set_option maxRecDepth 20000 in
theorem gJ2_checkIndex_2214a_J0_checkIndex_df160 : GoodIn wsJ2_checkIndex_2214a (va_wsS RJ2 414 yJ0_checkIndex_df160 wsJ0_checkIndex_df160) := goodIn_app (goodIn_of _ (by decide +kernel)) ggJ2_checkIndex_2214a_J0_checkIndex_df160
theorem dJ2_checkIndex_2214a_0 : decode cJ2_checkIndex_2214a 0 = .ok (.iload_n 0, 1) := by decide +kernel
theorem dJ2_checkIndex_2214a_1 : decode cJ2_checkIndex_2214a 1 = .ok (.aload_n 1, 1) := by decide +kernel
theorem dJ2_checkIndex_2214a_2 : decode cJ2_checkIndex_2214a 2 = .ok (.invokestatic 48, 3) := by decide +kernel
theorem dJ2_checkIndex_2214a_5 : decode cJ2_checkIndex_2214a 5 = .ok (.invokestatic 414, 3) := by decide +kernel
theorem dJ2_checkIndex_2214a_8 : decode cJ2_checkIndex_2214a 8 = .ok (.return_, 1) := by decide +kernel
theorem dJ3_checkIndex_8e157_0 : decode cJ3_checkIndex_8e157 0 = .ok (.iload_n 0, 1) := by decide +kernel
theorem dJ3_checkIndex_8e157_1 : decode cJ3_checkIndex_8e157 1 = .ok (.ifCond .lt 8, 3) := by decide +kernel
theorem dJ3_checkIndex_8e157_4 : decode cJ3_checkIndex_8e157 4 = .ok (.iload_n 0, 1) := by decide +kernel
theorem dJ3_checkIndex_8e157_5 : decode cJ3_checkIndex_8e157 5 = .ok (.iload_n 1, 1) := by decide +kernel
theorem dJ3_checkIndex_8e157_6 : decode cJ3_checkIndex_8e157 6 = .ok (.if_icmp .lt 10, 3) := by decide +kernel
theorem dJ3_checkIndex_8e157_9 : decode cJ3_checkIndex_8e157 9 = .ok (.aload_n 2, 1) := by decide +kernel
theorem dJ3_checkIndex_8e157_10 : decode cJ3_checkIndex_8e157 10 = .ok (.iload_n 0, 1) := by decide +kernel
theorem dJ3_checkIndex_8e157_11 : decode cJ3_checkIndex_8e157 11 = .ok (.iload_n 1, 1) := by decide +kernel
theorem dJ3_checkIndex_8e157_12 : decode cJ3_checkIndex_8e157 12 = .ok (.invokestatic 95, 3) := by decide +kernel
theorem dJ3_checkIndex_8e157_15 : decode cJ3_checkIndex_8e157 15 = .ok (.athrow, 1) := by decide +kernel
theorem dJ3_checkIndex_8e157_16 : decode cJ3_checkIndex_8e157 16 = .ok (.iload_n 0, 1) := by decide +kernel
theorem dJ3_checkIndex_8e157_17 : decode cJ3_checkIndex_8e157 17 = .ok (.ireturn, 1) := by decide +kernel
abbrev vwCl : List vw_C := [(RX0, TX0, 12), (RX1, TX1, 4), (RX2, TX2, 7), (RX3, TX3, 2), (RX4, TX4, 7), (RX5, TX5, 4), (RX6, TX6, 8), (RX7, TX7, 18)]
