theorem dX7_row_61 : decode cX7_row 61 = .ok (.ireturn, 1) := by decide +kernel
theorem dX7_row_62 : decode cX7_row 62 = .ok (.iload 4, 2) := by decide +kernel
theorem dX7_row_64 : decode cX7_row 64 = .ok (.aload_n 0, 1) := by decide +kernel
theorem dX7_row_65 : decode cX7_row 65 = .ok (.getfield 82, 3) := by decide +kernel
theorem dX7_row_68 : decode cX7_row 68 = .ok (.if_icmp .ge 5, 3) := by decide +kernel
theorem dX7_row_71 : decode cX7_row 71 = .ok (.iconst 0, 1) := by decide +kernel
theorem dX7_row_72 : decode cX7_row 72 = .ok (.ireturn, 1) := by decide +kernel
theorem dX7_row_73 : decode cX7_row 73 = .ok (.iload 4, 2) := by decide +kernel
theorem dX7_row_75 : decode cX7_row 75 = .ok (.aload_n 0, 1) := by decide +kernel
theorem dX7_row_76 : decode cX7_row 76 = .ok (.getfield 82, 3) := by decide +kernel
theorem dX7_row_79 : decode cX7_row 79 = .ok (.isub, 1) := by decide +kernel
theorem dX7_row_80 : decode cX7_row 80 = .ok (.istore 6, 2) := by decide +kernel
theorem dX7_row_82 : decode cX7_row 82 = .ok (.aload_n 0, 1) := by decide +kernel
theorem dX7_row_83 : decode cX7_row 83 = .ok (.getfield 85, 3) := by decide +kernel
theorem dX7_row_86 : decode cX7_row 86 = .ok (.iconst (-1), 1) := by decide +kernel
theorem dX7_row_87 : decode cX7_row 87 = .ok (.if_icmp .eq 25, 3) := by decide +kernel
theorem dX7_row_90 : decode cX7_row 90 = .ok (.iload 6, 2) := by decide +kernel
theorem dX7_row_92 : decode cX7_row 92 = .ok (.ifCond .ne 17, 3) := by decide +kernel
theorem dX7_row_95 : decode cX7_row 95 = .ok (.iload 5, 2) := by decide +kernel
theorem dX7_row_97 : decode cX7_row 97 = .ok (.ifCond .ne 7, 3) := by decide +kernel
theorem dX7_row_100 : decode cX7_row 100 = .ok (.iconst 1, 1) := by decide +kernel
theorem dX7_row_101 : decode cX7_row 101 = .ok (.goto 7, 3) := by decide +kernel
theorem dX7_row_104 : decode cX7_row 104 = .ok (.aload_n 0, 1) := by decide +kernel
theorem dX7_row_105 : decode cX7_row 105 = .ok (.getfield 85, 3) := by decide +kernel
theorem dX7_row_108 : decode cX7_row 108 = .ok (.ireturn, 1) := by decide +kernel
theorem dX7_row_109 : decode cX7_row 109 = .ok (.iinc 6 (-1), 3) := by decide +kernel
theorem dX7_row_112 : decode cX7_row 112 = .ok (.aload_n 0, 1) := by decide +kernel
theorem dX7_row_113 : decode cX7_row 113 = .ok (.getfield 91, 3) := by decide +kernel
theorem dX7_row_116 : decode cX7_row 116 = .ok (.aload_n 0, 1) := by decide +kernel
theorem dX7_row_117 : decode cX7_row 117 = .ok (.getfield 88, 3) := by decide +kernel
theorem dX7_row_120 : decode cX7_row 120 = .ok (.if_icmp .eq 25, 3) := by decide +kernel
theorem dX7_row_123 : decode cX7_row 123 = .ok (.iload 6, 2) := by decide +kernel
theorem dX7_row_125 : decode cX7_row 125 = .ok (.ifCond .ne 17, 3) := by decide +kernel
theorem dX7_row_128 : decode cX7_row 128 = .ok (.iload 5, 2) := by decide +kernel
theorem dX7_row_130 : decode cX7_row 130 = .ok (.ifCond .ne 7, 3) := by decide +kernel
theorem dX7_row_133 : decode cX7_row 133 = .ok (.iconst 2, 1) := by decide +kernel
theorem dX7_row_134 : decode cX7_row 134 = .ok (.goto 7, 3) := by decide +kernel
theorem dX7_row_137 : decode cX7_row 137 = .ok (.aload_n 0, 1) := by decide +kernel
theorem dX7_row_138 : decode cX7_row 138 = .ok (.getfield 91, 3) := by decide +kernel
theorem dX7_row_141 : decode cX7_row 141 = .ok (.ireturn, 1) := by decide +kernel
theorem dX7_row_142 : decode cX7_row 142 = .ok (.iinc 6 (-1), 3) := by decide +kernel
theorem dX7_row_145 : decode cX7_row 145 = .ok (.aload_n 0, 1) := by decide +kernel
theorem dX7_row_146 : decode cX7_row 146 = .ok (.getfield 94, 3) := by decide +kernel
theorem dX7_row_149 : decode cX7_row 149 = .ok (.ifCond .eq 21, 3) := by decide +kernel
theorem dX7_row_152 : decode cX7_row 152 = .ok (.iload 6, 2) := by decide +kernel
theorem dX7_row_154 : decode cX7_row 154 = .ok (.ifCond .ne 16, 3) := by decide +kernel
theorem dX7_row_157 : decode cX7_row 157 = .ok (.iload 5, 2) := by decide +kernel
theorem dX7_row_159 : decode cX7_row 159 = .ok (.ifCond .ne 7, 3) := by decide +kernel
theorem dX7_row_162 : decode cX7_row 162 = .ok (.iconst 3, 1) := by decide +kernel
theorem dX7_row_163 : decode cX7_row 163 = .ok (.goto 8, 3) := by decide +kernel
theorem dX7_row_166 : decode cX7_row 166 = .ok (.iconst 0, 1) := by decide +kernel
theorem dX7_row_167 : decode cX7_row 167 = .ok (.goto 4, 3) := by decide +kernel
theorem dX7_row_170 : decode cX7_row 170 = .ok (.iconst (-1), 1) := by decide +kernel
theorem dX7_row_171 : decode cX7_row 171 = .ok (.ireturn, 1) := by decide +kernel
set_option maxRecDepth 20000 in
theorem ggX7_isSafe_X7_least : GoodIn wsX7_isSafe wsX7_least := goodIn_r _ [5, 6, 7, 8, 9, 10, 4, 11, 12, 13, 14, 15, 16, 17, 18, 19, 20, 21, 22, 23, 24, 25, 26, 27, 28, 29, 30, 31, 32, 33, 34, 39, 40, 41, 42, 43, 44, 45, 46, 47, 48, 49, 50, 51, 52, 53, 54, 55, 56] (by decide +kernel) (by decide +kernel)
set_option maxRecDepth 20000 in
theorem gX7_isSafe_X7_least : GoodIn wsX7_isSafe (wsV RX7 104 RX7 yX7_least wsX7_least) := goodIn_app (goodIn_of _ (by decide +kernel)) ggX7_isSafe_X7_least
set_option maxRecDepth 20000 in
theorem ggX7_isSafe_X7_bestOf : GoodIn wsX7_isSafe wsX7_bestOf := goodIn_r _ [38, 8, 9, 10, 4, 11, 7, 19, 20, 21, 39, 40, 41, 42, 43, 44, 45, 46, 47, 48, 49, 50, 51, 52, 53, 54, 55, 56] (by decide +kernel) (by decide +kernel)
set_option maxRecDepth 20000 in
theorem gX7_isSafe_X7_bestOf : GoodIn wsX7_isSafe (wsV RX7 98 RX7 yX7_bestOf wsX7_bestOf) := goodIn_app (goodIn_of _ (by decide +kernel)) ggX7_isSafe_X7_bestOf
theorem dX7_isSafe_0 : decode cX7_isSafe 0 = .ok (.aload_n 0, 1) := by decide +kernel
theorem dX7_isSafe_1 : decode cX7_isSafe 1 = .ok (.iload_n 1, 1) := by decide +kernel
theorem dX7_isSafe_2 : decode cX7_isSafe 2 = .ok (.iload_n 2, 1) := by decide +kernel
theorem dX7_isSafe_3 : decode cX7_isSafe 3 = .ok (.iconst (-1), 1) := by decide +kernel
theorem dX7_isSafe_4 : decode cX7_isSafe 4 = .ok (.iload_n 3, 1) := by decide +kernel
theorem dX7_isSafe_5 : decode cX7_isSafe 5 = .ok (.invokevirtual 104, 3) := by decide +kernel
theorem dX7_isSafe_8 : decode cX7_isSafe 8 = .ok (.iconst (-1), 1) := by decide +kernel
theorem dX7_isSafe_9 : decode cX7_isSafe 9 = .ok (.if_icmp .eq 5, 3) := by decide +kernel
theorem dX7_isSafe_12 : decode cX7_isSafe 12 = .ok (.iconst 0, 1) := by decide +kernel
theorem dX7_isSafe_13 : decode cX7_isSafe 13 = .ok (.ireturn, 1) := by decide +kernel
theorem dX7_isSafe_14 : decode cX7_isSafe 14 = .ok (.iconst 0, 1) := by decide +kernel
theorem dX7_isSafe_15 : decode cX7_isSafe 15 = .ok (.istore 4, 2) := by decide +kernel
theorem dX7_isSafe_17 : decode cX7_isSafe 17 = .ok (.iload 4, 2) := by decide +kernel
theorem dX7_isSafe_19 : decode cX7_isSafe 19 = .ok (.aload_n 0, 1) := by decide +kernel
theorem dX7_isSafe_20 : decode cX7_isSafe 20 = .ok (.iload_n 1, 1) := by decide +kernel
theorem dX7_isSafe_21 : decode cX7_isSafe 21 = .ok (.iload_n 2, 1) := by decide +kernel
theorem dX7_isSafe_22 : decode cX7_isSafe 22 = .ok (.iload_n 3, 1) := by decide +kernel
theorem dX7_isSafe_23 : decode cX7_isSafe 23 = .ok (.invokevirtual 98, 3) := by decide +kernel
theorem dX7_isSafe_26 : decode cX7_isSafe 26 = .ok (.if_icmp .ge 24, 3) := by decide +kernel
theorem dX7_isSafe_29 : decode cX7_isSafe 29 = .ok (.aload_n 0, 1) := by decide +kernel
theorem dX7_isSafe_30 : decode cX7_isSafe 30 = .ok (.iload_n 1, 1) := by decide +kernel
theorem dX7_isSafe_31 : decode cX7_isSafe 31 = .ok (.iload_n 2, 1) := by decide +kernel
theorem dX7_isSafe_32 : decode cX7_isSafe 32 = .ok (.iload 4, 2) := by decide +kernel
theorem dX7_isSafe_34 : decode cX7_isSafe 34 = .ok (.iload_n 3, 1) := by decide +kernel
theorem dX7_isSafe_35 : decode cX7_isSafe 35 = .ok (.invokevirtual 104, 3) := by decide +kernel
theorem dX7_isSafe_38 : decode cX7_isSafe 38 = .ok (.iconst (-1), 1) := by decide +kernel
theorem dX7_isSafe_39 : decode cX7_isSafe 39 = .ok (.if_icmp .eq 5, 3) := by decide +kernel
theorem dX7_isSafe_42 : decode cX7_isSafe 42 = .ok (.iconst 0, 1) := by decide +kernel
theorem dX7_isSafe_43 : decode cX7_isSafe 43 = .ok (.ireturn, 1) := by decide +kernel
theorem dX7_isSafe_44 : decode cX7_isSafe 44 = .ok (.iinc 4 1, 3) := by decide +kernel
theorem dX7_isSafe_47 : decode cX7_isSafe 47 = .ok (.goto (-30), 3) := by decide +kernel
theorem dX7_isSafe_50 : decode cX7_isSafe 50 = .ok (.iconst 1, 1) := by decide +kernel
theorem dX7_isSafe_51 : decode cX7_isSafe 51 = .ok (.ireturn, 1) := by decide +kernel
set_option maxRecDepth 20000 in
theorem ggX7_safe_X7_areFriends : GoodIn wsX7_safe wsX7_areFriends := goodIn_r _ [5, 6, 7, 4, 8, 9, 10, 11] (by decide +kernel) (by decide +kernel)
set_option maxRecDepth 20000 in
theorem gX7_safe_X7_areFriends : GoodIn wsX7_safe (va_wsS RX7 58 yX7_areFriends wsX7_areFriends) := goodIn_app (goodIn_of _ (by decide +kernel)) ggX7_safe_X7_areFriends
set_option maxRecDepth 20000 in
theorem ggX7_safe_X7_isSafe : GoodIn wsX7_safe wsX7_isSafe := goodIn_r _ [15, 16, 17, 18, 4, 19, 20, 1, 21, 22, 23, 24, 25, 26, 27, 28, 29, 30, 31, 32, 33, 34, 35, 36, 37, 38, 39, 40, 41, 42, 43, 44, 45, 46, 47, 48, 49, 50, 51, 52, 53, 54, 55, 56, 57, 58, 59, 60, 61, 62, 63, 64, 65, 66, 67, 68, 69] (by decide +kernel) (by decide +kernel)
set_option maxRecDepth 20000 in
theorem gX7_safe_X7_isSafe : GoodIn wsX7_safe (wsV RX7 108 RX7 yX7_isSafe wsX7_isSafe) := goodIn_app (goodIn_of _ (by decide +kernel)) ggX7_safe_X7_isSafe
set_option maxRecDepth 20000 in
theorem ggX7_safe_X7_one : GoodIn wsX7_safe wsX7_one := goodIn_r _ [47] (by decide +kernel) (by decide +kernel)
set_option maxRecDepth 20000 in
theorem gX7_safe_X7_one : GoodIn wsX7_safe (va_wsS RX7 45 yX7_one wsX7_one) := goodIn_app (goodIn_of _ (by decide +kernel)) ggX7_safe_X7_one
theorem dX7_safe_0 : decode cX7_safe 0 = .ok (.iload_n 1, 1) := by decide +kernel
theorem dX7_safe_1 : decode cX7_safe 1 = .ok (.iload_n 2, 1) := by decide +kernel
theorem dX7_safe_2 : decode cX7_safe 2 = .ok (.invokestatic 58, 3) := by decide +kernel
theorem dX7_safe_5 : decode cX7_safe 5 = .ok (.ifCond .eq 22, 3) := by decide +kernel
theorem dX7_safe_8 : decode cX7_safe 8 = .ok (.aload_n 0, 1) := by decide +kernel
theorem dX7_safe_9 : decode cX7_safe 9 = .ok (.iload_n 1, 1) := by decide +kernel
theorem dX7_safe_10 : decode cX7_safe 10 = .ok (.iload_n 2, 1) := by decide +kernel
theorem dX7_safe_11 : decode cX7_safe 11 = .ok (.aload_n 0, 1) := by decide +kernel
theorem dX7_safe_12 : decode cX7_safe 12 = .ok (.getfield 7, 3) := by decide +kernel
theorem dX7_safe_15 : decode cX7_safe 15 = .ok (.bipush 7, 2) := by decide +kernel
theorem dX7_safe_17 : decode cX7_safe 17 = .ok (.iaload, 1) := by decide +kernel
theorem dX7_safe_18 : decode cX7_safe 18 = .ok (.invokevirtual 108, 3) := by decide +kernel
theorem dX7_safe_21 : decode cX7_safe 21 = .ok (.invokestatic 45, 3) := by decide +kernel
theorem dX7_safe_24 : decode cX7_safe 24 = .ok (.goto 4, 3) := by decide +kernel
theorem dX7_safe_27 : decode cX7_safe 27 = .ok (.iconst (-1), 1) := by decide +kernel
theorem dX7_safe_28 : decode cX7_safe 28 = .ok (.ireturn, 1) := by decide +kernel
set_option maxRecDepth 20000 in
theorem ggX7_lowest_X7_areFriends : GoodIn wsX7_lowest wsX7_areFriends := goodIn_r _ [5, 6, 7, 4, 8, 9, 10, 11] (by decide +kernel) (by decide +kernel)
set_option maxRecDepth 20000 in
theorem gX7_lowest_X7_areFriends : GoodIn wsX7_lowest (va_wsS RX7 58 yX7_areFriends wsX7_areFriends) := goodIn_app (goodIn_of _ (by decide +kernel)) ggX7_lowest_X7_areFriends
set_option maxRecDepth 20000 in
theorem ggX7_lowest_X7_bestOf : GoodIn wsX7_lowest wsX7_bestOf := goodIn_r _ [15, 16, 17, 18, 4, 19, 1, 20, 21, 22, 48, 49, 50, 51, 52, 53, 54, 55, 56, 57, 58, 59, 60, 61, 62, 63, 64, 65] (by decide +kernel) (by decide +kernel)
set_option maxRecDepth 20000 in
theorem gX7_lowest_X7_bestOf : GoodIn wsX7_lowest (wsV RX7 98 RX7 yX7_bestOf wsX7_bestOf) := goodIn_app (goodIn_of _ (by decide +kernel)) ggX7_lowest_X7_bestOf
set_option maxRecDepth 20000 in
theorem ggX7_lowest_X7_least : GoodIn wsX7_lowest wsX7_least := goodIn_r _ [26, 27, 1, 16, 17, 18, 4, 19, 28, 29, 30, 31, 32, 33, 34, 20, 21, 22, 35, 36, 37, 38, 39, 40, 41, 42, 43, 44, 45, 46, 47, 48, 49, 50, 51, 52, 53, 54, 55, 56, 57, 58, 59, 60, 61, 62, 63, 64, 65] (by decide +kernel) (by decide +kernel)
set_option maxRecDepth 20000 in
theorem gX7_lowest_X7_least : GoodIn wsX7_lowest (wsV RX7 104 RX7 yX7_least wsX7_least) := goodIn_app (goodIn_of _ (by decide +kernel)) ggX7_lowest_X7_least
theorem dX7_lowest_0 : decode cX7_lowest 0 = .ok (.iload_n 1, 1) := by decide +kernel
theorem dX7_lowest_1 : decode cX7_lowest 1 = .ok (.iload_n 2, 1) := by decide +kernel
theorem dX7_lowest_2 : decode cX7_lowest 2 = .ok (.invokestatic 58, 3) := by decide +kernel
theorem dX7_lowest_5 : decode cX7_lowest 5 = .ok (.ifCond .ne 5, 3) := by decide +kernel
theorem dX7_lowest_8 : decode cX7_lowest 8 = .ok (.iconst (-1), 1) := by decide +kernel
theorem dX7_lowest_9 : decode cX7_lowest 9 = .ok (.ireturn, 1) := by decide +kernel
theorem dX7_lowest_10 : decode cX7_lowest 10 = .ok (.iconst 0, 1) := by decide +kernel
theorem dX7_lowest_11 : decode cX7_lowest 11 = .ok (.istore_n 3, 1) := by decide +kernel
theorem dX7_lowest_12 : decode cX7_lowest 12 = .ok (.iload_n 3, 1) := by decide +kernel
theorem dX7_lowest_13 : decode cX7_lowest 13 = .ok (.aload_n 0, 1) := by decide +kernel
theorem dX7_lowest_14 : decode cX7_lowest 14 = .ok (.iload_n 1, 1) := by decide +kernel
theorem dX7_lowest_15 : decode cX7_lowest 15 = .ok (.iload_n 2, 1) := by decide +kernel
theorem dX7_lowest_16 : decode cX7_lowest 16 = .ok (.aload_n 0, 1) := by decide +kernel
theorem dX7_lowest_17 : decode cX7_lowest 17 = .ok (.getfield 7, 3) := by decide +kernel
theorem dX7_lowest_20 : decode cX7_lowest 20 = .ok (.bipush 7, 2) := by decide +kernel
theorem dX7_lowest_22 : decode cX7_lowest 22 = .ok (.iaload, 1) := by decide +kernel
theorem dX7_lowest_23 : decode cX7_lowest 23 = .ok (.invokevirtual 98, 3) := by decide +kernel
theorem dX7_lowest_26 : decode cX7_lowest 26 = .ok (.if_icmp .ge 29, 3) := by decide +kernel
theorem dX7_lowest_29 : decode cX7_lowest 29 = .ok (.aload_n 0, 1) := by decide +kernel
theorem dX7_lowest_30 : decode cX7_lowest 30 = .ok (.iload_n 1, 1) := by decide +kernel
theorem dX7_lowest_31 : decode cX7_lowest 31 = .ok (.iload_n 2, 1) := by decide +kernel
theorem dX7_lowest_32 : decode cX7_lowest 32 = .ok (.iload_n 3, 1) := by decide +kernel
theorem dX7_lowest_33 : decode cX7_lowest 33 = .ok (.aload_n 0, 1) := by decide +kernel
theorem dX7_lowest_34 : decode cX7_lowest 34 = .ok (.getfield 7, 3) := by decide +kernel
theorem dX7_lowest_37 : decode cX7_lowest 37 = .ok (.bipush 7, 2) := by decide +kernel
theorem dX7_lowest_39 : decode cX7_lowest 39 = .ok (.iaload, 1) := by decide +kernel
theorem dX7_lowest_40 : decode cX7_lowest 40 = .ok (.invokevirtual 104, 3) := by decide +kernel
theorem dX7_lowest_43 : decode cX7_lowest 43 = .ok (.iconst (-1), 1) := by decide +kernel
theorem dX7_lowest_44 : decode cX7_lowest 44 = .ok (.if_icmp .eq 5, 3) := by decide +kernel
theorem dX7_lowest_47 : decode cX7_lowest 47 = .ok (.iload_n 3, 1) := by decide +kernel
theorem dX7_lowest_48 : decode cX7_lowest 48 = .ok (.ireturn, 1) := by decide +kernel
theorem dX7_lowest_49 : decode cX7_lowest 49 = .ok (.iinc 3 1, 3) := by decide +kernel
theorem dX7_lowest_52 : decode cX7_lowest 52 = .ok (.goto (-40), 3) := by decide +kernel
theorem dX7_lowest_55 : decode cX7_lowest 55 = .ok (.iconst (-1), 1) := by decide +kernel
theorem dX7_lowest_56 : decode cX7_lowest 56 = .ok (.ireturn, 1) := by decide +kernel
theorem dX7_isInRoom_0 : decode cX7_isInRoom 0 = .ok (.iload_n 1, 1) := by decide +kernel
theorem dX7_isInRoom_1 : decode cX7_isInRoom 1 = .ok (.iload_n 2, 1) := by decide +kernel
theorem dX7_isInRoom_2 : decode cX7_isInRoom 2 = .ok (.if_icmp .eq 25, 3) := by decide +kernel
theorem dX7_isInRoom_5 : decode cX7_isInRoom 5 = .ok (.iload_n 0, 1) := by decide +kernel
theorem dX7_isInRoom_6 : decode cX7_isInRoom 6 = .ok (.iload_n 1, 1) := by decide +kernel
theorem dX7_isInRoom_7 : decode cX7_isInRoom 7 = .ok (.ishr, 1) := by decide +kernel
theorem dX7_isInRoom_8 : decode cX7_isInRoom 8 = .ok (.iconst 1, 1) := by decide +kernel
theorem dX7_isInRoom_9 : decode cX7_isInRoom 9 = .ok (.iand, 1) := by decide +kernel
theorem dX7_isInRoom_10 : decode cX7_isInRoom 10 = .ok (.iconst 1, 1) := by decide +kernel
theorem dX7_isInRoom_11 : decode cX7_isInRoom 11 = .ok (.if_icmp .ne 16, 3) := by decide +kernel
theorem dX7_isInRoom_14 : decode cX7_isInRoom 14 = .ok (.iload_n 0, 1) := by decide +kernel
theorem dX7_isInRoom_15 : decode cX7_isInRoom 15 = .ok (.iload_n 2, 1) := by decide +kernel
theorem dX7_isInRoom_16 : decode cX7_isInRoom 16 = .ok (.ishr, 1) := by decide +kernel
theorem dX7_isInRoom_17 : decode cX7_isInRoom 17 = .ok (.iconst 1, 1) := by decide +kernel
theorem dX7_isInRoom_18 : decode cX7_isInRoom 18 = .ok (.iand, 1) := by decide +kernel
theorem dX7_isInRoom_19 : decode cX7_isInRoom 19 = .ok (.iconst 1, 1) := by decide +kernel
theorem dX7_isInRoom_20 : decode cX7_isInRoom 20 = .ok (.if_icmp .ne 7, 3) := by decide +kernel
theorem dX7_isInRoom_23 : decode cX7_isInRoom 23 = .ok (.iconst 1, 1) := by decide +kernel
theorem dX7_isInRoom_24 : decode cX7_isInRoom 24 = .ok (.goto 4, 3) := by decide +kernel
theorem dX7_isInRoom_27 : decode cX7_isInRoom 27 = .ok (.iconst 0, 1) := by decide +kernel
theorem dX7_isInRoom_28 : decode cX7_isInRoom 28 = .ok (.ireturn, 1) := by decide +kernel
set_option maxRecDepth 20000 in
theorem ggX7_room_X7_isIn : GoodIn wsX7_room wsX7_isIn := goodIn_r _ [5] (by decide +kernel) (by decide +kernel)
set_option maxRecDepth 20000 in
theorem gX7_room_X7_isIn : GoodIn wsX7_room (va_wsS RX7 37 yX7_isIn wsX7_isIn) := goodIn_app (goodIn_of _ (by decide +kernel)) ggX7_room_X7_isIn
set_option maxRecDepth 20000 in
theorem ggX7_room_X7_isInRoom : GoodIn wsX7_room wsX7_isInRoom := goodIn_r _ [8] (by decide +kernel) (by decide +kernel)
set_option maxRecDepth 20000 in
theorem gX7_room_X7_isInRoom : GoodIn wsX7_room (va_wsS RX7 111 yX7_isInRoom wsX7_isInRoom) := goodIn_app (goodIn_of _ (by decide +kernel)) ggX7_room_X7_isInRoom
set_option maxRecDepth 20000 in
theorem ggX7_room_X7_isSafe : GoodIn wsX7_room wsX7_isSafe := goodIn_r _ [12, 13, 14, 15, 4, 16, 17, 1, 18, 19, 20, 21, 22, 23, 24, 25, 26, 27, 28, 29, 30, 31, 32, 33, 34, 35, 36, 37, 38, 39, 40, 41, 42, 43, 44, 45, 46, 47, 48, 49, 50, 51, 52, 53, 54, 55, 56, 57, 58, 59, 60, 61, 62, 63, 64, 65, 66] (by decide +kernel) (by decide +kernel)
set_option maxRecDepth 20000 in
theorem gX7_room_X7_isSafe : GoodIn wsX7_room (wsV RX7 108 RX7 yX7_isSafe wsX7_isSafe) := goodIn_app (goodIn_of _ (by decide +kernel)) ggX7_room_X7_isSafe
theorem dX7_room_0 : decode cX7_room 0 = .ok (.iload_n 1, 1) := by decide +kernel
theorem dX7_room_1 : decode cX7_room 1 = .ok (.iconst 0, 1) := by decide +kernel
theorem dX7_room_2 : decode cX7_room 2 = .ok (.bipush 31, 2) := by decide +kernel
theorem dX7_room_4 : decode cX7_room 4 = .ok (.invokestatic 37, 3) := by decide +kernel
theorem dX7_room_7 : decode cX7_room 7 = .ok (.ifCond .ne 5, 3) := by decide +kernel
theorem dX7_room_10 : decode cX7_room 10 = .ok (.iconst (-1), 1) := by decide +kernel
theorem dX7_room_11 : decode cX7_room 11 = .ok (.ireturn, 1) := by decide +kernel
theorem dX7_room_12 : decode cX7_room 12 = .ok (.iconst 0, 1) := by decide +kernel
theorem dX7_room_13 : decode cX7_room 13 = .ok (.istore_n 3, 1) := by decide +kernel
theorem dX7_room_14 : decode cX7_room 14 = .ok (.iconst 0, 1) := by decide +kernel
theorem dX7_room_15 : decode cX7_room 15 = .ok (.istore 4, 2) := by decide +kernel
theorem dX7_room_17 : decode cX7_room 17 = .ok (.iload 4, 2) := by decide +kernel
theorem dX7_room_19 : decode cX7_room 19 = .ok (.iconst 5, 1) := by decide +kernel
theorem dX7_room_20 : decode cX7_room 20 = .ok (.if_icmp .ge 72, 3) := by decide +kernel
theorem dX7_room_23 : decode cX7_room 23 = .ok (.iconst 0, 1) := by decide +kernel
theorem dX7_room_24 : decode cX7_room 24 = .ok (.istore 5, 2) := by decide +kernel
theorem dX7_room_26 : decode cX7_room 26 = .ok (.iload 5, 2) := by decide +kernel
theorem dX7_room_28 : decode cX7_room 28 = .ok (.iconst 5, 1) := by decide +kernel
theorem dX7_room_29 : decode cX7_room 29 = .ok (.if_icmp .ge 57, 3) := by decide +kernel
theorem dX7_room_32 : decode cX7_room 32 = .ok (.iload_n 1, 1) := by decide +kernel
theorem dX7_room_33 : decode cX7_room 33 = .ok (.iload 4, 2) := by decide +kernel
theorem dX7_room_35 : decode cX7_room 35 = .ok (.iload 5, 2) := by decide +kernel
theorem dX7_room_37 : decode cX7_room 37 = .ok (.invokestatic 111, 3) := by decide +kernel
theorem dX7_room_40 : decode cX7_room 40 = .ok (.ifCond .eq 40, 3) := by decide +kernel
theorem dX7_room_43 : decode cX7_room 43 = .ok (.aload_n 0, 1) := by decide +kernel
theorem dX7_room_44 : decode cX7_room 44 = .ok (.iload 4, 2) := by decide +kernel
theorem dX7_room_46 : decode cX7_room 46 = .ok (.iload 5, 2) := by decide +kernel
theorem dX7_room_48 : decode cX7_room 48 = .ok (.aload_n 0, 1) := by decide +kernel
theorem dX7_room_49 : decode cX7_room 49 = .ok (.getfield 7, 3) := by decide +kernel
theorem dX7_room_52 : decode cX7_room 52 = .ok (.bipush 7, 2) := by decide +kernel
theorem dX7_room_54 : decode cX7_room 54 = .ok (.iaload, 1) := by decide +kernel
theorem dX7_room_55 : decode cX7_room 55 = .ok (.invokevirtual 108, 3) := by decide +kernel
theorem dX7_room_58 : decode cX7_room 58 = .ok (.ifCond .eq 6, 3) := by decide +kernel
theorem dX7_room_61 : decode cX7_room 61 = .ok (.goto 19, 3) := by decide +kernel
theorem dX7_room_64 : decode cX7_room 64 = .ok (.iload_n 3, 1) := by decide +kernel
theorem dX7_room_65 : decode cX7_room 65 = .ok (.iload_n 2, 1) := by decide +kernel
theorem dX7_room_66 : decode cX7_room 66 = .ok (.if_icmp .ne 11, 3) := by decide +kernel
theorem dX7_room_69 : decode cX7_room 69 = .ok (.iconst 5, 1) := by decide +kernel
theorem dX7_room_70 : decode cX7_room 70 = .ok (.iload 4, 2) := by decide +kernel
theorem dX7_room_72 : decode cX7_room 72 = .ok (.imul, 1) := by decide +kernel
theorem dX7_room_73 : decode cX7_room 73 = .ok (.iload 5, 2) := by decide +kernel
theorem dX7_room_75 : decode cX7_room 75 = .ok (.iadd, 1) := by decide +kernel
theorem dX7_room_76 : decode cX7_room 76 = .ok (.ireturn, 1) := by decide +kernel
theorem dX7_room_77 : decode cX7_room 77 = .ok (.iinc 3 1, 3) := by decide +kernel
theorem dX7_room_80 : decode cX7_room 80 = .ok (.iinc 5 1, 3) := by decide +kernel
theorem dX7_room_83 : decode cX7_room 83 = .ok (.goto (-57), 3) := by decide +kernel
theorem dX7_room_86 : decode cX7_room 86 = .ok (.iinc 4 1, 3) := by decide +kernel
theorem dX7_room_89 : decode cX7_room 89 = .ok (.goto (-72), 3) := by decide +kernel
theorem dX7_room_92 : decode cX7_room 92 = .ok (.iload_n 2, 1) := by decide +kernel
theorem dX7_room_93 : decode cX7_room 93 = .ok (.iconst (-1), 1) := by decide +kernel
theorem dX7_room_94 : decode cX7_room 94 = .ok (.if_icmp .ne 7, 3) := by decide +kernel
theorem dX7_room_97 : decode cX7_room 97 = .ok (.iload_n 3, 1) := by decide +kernel
theorem dX7_room_98 : decode cX7_room 98 = .ok (.goto 4, 3) := by decide +kernel
theorem dX7_room_101 : decode cX7_room 101 = .ok (.iconst (-1), 1) := by decide +kernel
theorem dX7_room_102 : decode cX7_room 102 = .ok (.ireturn, 1) := by decide +kernel
set_option maxRecDepth 20000 in
theorem ggX7_does_X7_pair : GoodIn wsX7_does wsX7_pair := goodIn_r _ [5, 6, 7, 8, 9, 10, 11, 12] (by decide +kernel) (by decide +kernel)
set_option maxRecDepth 20000 in
theorem gX7_does_X7_pair : GoodIn wsX7_does (va_wsS RX7 62 yX7_pair wsX7_pair) := goodIn_app (goodIn_of _ (by decide +kernel)) ggX7_does_X7_pair
set_option maxRecDepth 20000 in
theorem ggX7_does_X7_bestOf : GoodIn wsX7_does wsX7_bestOf := goodIn_r _ [16, 17, 18, 19, 4, 20, 1, 21, 22, 23, 52, 53, 54, 55, 56, 57, 58, 59, 60, 61, 62, 63, 64, 65, 66, 67, 68, 69] (by decide +kernel) (by decide +kernel)
set_option maxRecDepth 20000 in
theorem gX7_does_X7_bestOf : GoodIn wsX7_does (wsV RX7 98 RX7 yX7_bestOf wsX7_bestOf) := goodIn_app (goodIn_of _ (by decide +kernel)) ggX7_does_X7_bestOf
set_option maxRecDepth 20000 in
theorem ggX7_does_X7_isInRoom : GoodIn wsX7_does wsX7_isInRoom := goodIn_r _ [26] (by decide +kernel) (by decide +kernel)
set_option maxRecDepth 20000 in
theorem gX7_does_X7_isInRoom : GoodIn wsX7_does (va_wsS RX7 111 yX7_isInRoom wsX7_isInRoom) := goodIn_app (goodIn_of _ (by decide +kernel)) ggX7_does_X7_isInRoom
set_option maxRecDepth 20000 in
theorem ggX7_does_X7_isSafe : GoodIn wsX7_does wsX7_isSafe := goodIn_r _ [30, 31, 32, 33, 4, 34, 35, 1, 17, 18, 19, 20, 36, 37, 38, 10, 11, 8, 12, 21, 22, 23, 39, 40, 41, 42, 43, 44, 45, 46, 47, 48, 49, 50, 51, 13, 14, 15, 16, 52, 53, 54, 55, 56, 57, 58, 59, 60, 61, 62, 63, 64, 65, 66, 67, 68, 69] (by decide +kernel) (by decide +kernel)
set_option maxRecDepth 20000 in
theorem gX7_does_X7_isSafe : GoodIn wsX7_does (wsV RX7 108 RX7 yX7_isSafe wsX7_isSafe) := goodIn_app (goodIn_of _ (by decide +kernel)) ggX7_does_X7_isSafe
theorem dX7_does_0 : decode cX7_does 0 = .ok (.iconst 0, 1) := by decide +kernel
theorem dX7_does_1 : decode cX7_does 1 = .ok (.istore_n 3, 1) := by decide +kernel
theorem dX7_does_2 : decode cX7_does 2 = .ok (.iload_n 3, 1) := by decide +kernel
theorem dX7_does_3 : decode cX7_does 3 = .ok (.iconst 5, 1) := by decide +kernel
theorem dX7_does_4 : decode cX7_does 4 = .ok (.if_icmp .ge 85, 3) := by decide +kernel
theorem dX7_does_7 : decode cX7_does 7 = .ok (.iconst 0, 1) := by decide +kernel
theorem dX7_does_8 : decode cX7_does 8 = .ok (.istore 4, 2) := by decide +kernel
theorem dX7_does_10 : decode cX7_does 10 = .ok (.iload 4, 2) := by decide +kernel
theorem dX7_does_12 : decode cX7_does 12 = .ok (.iconst 5, 1) := by decide +kernel
theorem dX7_does_13 : decode cX7_does 13 = .ok (.if_icmp .ge 70, 3) := by decide +kernel
theorem dX7_does_16 : decode cX7_does 16 = .ok (.iload_n 3, 1) := by decide +kernel
theorem dX7_does_17 : decode cX7_does 17 = .ok (.iload 4, 2) := by decide +kernel
theorem dX7_does_19 : decode cX7_does 19 = .ok (.if_icmp .ge 35, 3) := by decide +kernel
theorem dX7_does_22 : decode cX7_does 22 = .ok (.aload_n 0, 1) := by decide +kernel
theorem dX7_does_23 : decode cX7_does 23 = .ok (.getfield 7, 3) := by decide +kernel
theorem dX7_does_26 : decode cX7_does 26 = .ok (.bipush 15, 2) := by decide +kernel
theorem dX7_does_28 : decode cX7_does 28 = .ok (.iload_n 3, 1) := by decide +kernel
theorem dX7_does_29 : decode cX7_does 29 = .ok (.iload 4, 2) := by decide +kernel
theorem dX7_does_31 : decode cX7_does 31 = .ok (.invokestatic 62, 3) := by decide +kernel
theorem dX7_does_34 : decode cX7_does 34 = .ok (.iadd, 1) := by decide +kernel
theorem dX7_does_35 : decode cX7_does 35 = .ok (.iaload, 1) := by decide +kernel
theorem dX7_does_36 : decode cX7_does 36 = .ok (.iconst 1, 1) := by decide +kernel
theorem dX7_does_37 : decode cX7_does 37 = .ok (.if_icmp .ne 17, 3) := by decide +kernel
theorem dX7_does_40 : decode cX7_does 40 = .ok (.aload_n 0, 1) := by decide +kernel
theorem dX7_does_41 : decode cX7_does 41 = .ok (.iload_n 3, 1) := by decide +kernel
theorem dX7_does_42 : decode cX7_does 42 = .ok (.iload 4, 2) := by decide +kernel
theorem dX7_does_44 : decode cX7_does 44 = .ok (.iload_n 2, 1) := by decide +kernel
theorem dX7_does_45 : decode cX7_does 45 = .ok (.invokevirtual 98, 3) := by decide +kernel
theorem dX7_does_48 : decode cX7_does 48 = .ok (.iconst (-1), 1) := by decide +kernel
theorem dX7_does_49 : decode cX7_does 49 = .ok (.if_icmp .ne 5, 3) := by decide +kernel
theorem dX7_does_52 : decode cX7_does 52 = .ok (.iconst 0, 1) := by decide +kernel
theorem dX7_does_53 : decode cX7_does 53 = .ok (.ireturn, 1) := by decide +kernel
theorem dX7_does_54 : decode cX7_does 54 = .ok (.iload_n 1, 1) := by decide +kernel
theorem dX7_does_55 : decode cX7_does 55 = .ok (.iload_n 3, 1) := by decide +kernel
theorem dX7_does_56 : decode cX7_does 56 = .ok (.iload 4, 2) := by decide +kernel
theorem dX7_does_58 : decode cX7_does 58 = .ok (.invokestatic 111, 3) := by decide +kernel
theorem dX7_does_61 : decode cX7_does 61 = .ok (.ifCond .eq 16, 3) := by decide +kernel
theorem dX7_does_64 : decode cX7_does 64 = .ok (.aload_n 0, 1) := by decide +kernel
theorem dX7_does_65 : decode cX7_does 65 = .ok (.iload_n 3, 1) := by decide +kernel
theorem dX7_does_66 : decode cX7_does 66 = .ok (.iload 4, 2) := by decide +kernel
theorem dX7_does_68 : decode cX7_does 68 = .ok (.iload_n 2, 1) := by decide +kernel
theorem dX7_does_69 : decode cX7_does 69 = .ok (.invokevirtual 108, 3) := by decide +kernel
theorem dX7_does_72 : decode cX7_does 72 = .ok (.ifCond .ne 5, 3) := by decide +kernel
theorem dX7_does_75 : decode cX7_does 75 = .ok (.iconst 0, 1) := by decide +kernel
theorem dX7_does_76 : decode cX7_does 76 = .ok (.ireturn, 1) := by decide +kernel
theorem dX7_does_77 : decode cX7_does 77 = .ok (.iinc 4 1, 3) := by decide +kernel
theorem dX7_does_80 : decode cX7_does 80 = .ok (.goto (-70), 3) := by decide +kernel
theorem dX7_does_83 : decode cX7_does 83 = .ok (.iinc 3 1, 3) := by decide +kernel
theorem dX7_does_86 : decode cX7_does 86 = .ok (.goto (-84), 3) := by decide +kernel
theorem dX7_does_89 : decode cX7_does 89 = .ok (.iconst 1, 1) := by decide +kernel
theorem dX7_does_90 : decode cX7_does 90 = .ok (.ireturn, 1) := by decide +kernel
set_option maxRecDepth 20000 in
theorem ggX7_cheapest_X7_isIn : GoodIn wsX7_cheapest wsX7_isIn := goodIn_r _ [5] (by decide +kernel) (by decide +kernel)
set_option maxRecDepth 20000 in
theorem gX7_cheapest_X7_isIn : GoodIn wsX7_cheapest (va_wsS RX7 37 yX7_isIn wsX7_isIn) := goodIn_app (goodIn_of _ (by decide +kernel)) ggX7_cheapest_X7_isIn
set_option maxRecDepth 20000 in
theorem ggX7_cheapest_X7_does : GoodIn wsX7_cheapest wsX7_does := goodIn_r _ [9, 1, 10, 11, 4, 12, 13, 14, 15, 16, 17, 18, 19, 20, 21, 22, 23, 24, 25, 26, 27, 28, 29, 30, 31, 32, 33, 34, 35, 36, 37, 38, 39, 40, 41, 42, 43, 44, 45, 46, 47, 48, 49, 50, 51, 52, 53, 54, 55, 56, 57, 58, 59, 60, 61, 62, 63, 64, 65, 66, 67, 68, 69, 70, 71, 72, 73, 74, 75, 76] (by decide +kernel) (by decide +kernel)
set_option maxRecDepth 20000 in
theorem gX7_cheapest_X7_does : GoodIn wsX7_cheapest (wsV RX7 114 RX7 yX7_does wsX7_does) := goodIn_app (goodIn_of _ (by decide +kernel)) ggX7_cheapest_X7_does
theorem dX7_cheapest_0 : decode cX7_cheapest 0 = .ok (.iload_n 1, 1) := by decide +kernel
theorem dX7_cheapest_1 : decode cX7_cheapest 1 = .ok (.iconst 0, 1) := by decide +kernel
theorem dX7_cheapest_2 : decode cX7_cheapest 2 = .ok (.bipush 31, 2) := by decide +kernel
theorem dX7_cheapest_4 : decode cX7_cheapest 4 = .ok (.invokestatic 37, 3) := by decide +kernel
theorem dX7_cheapest_7 : decode cX7_cheapest 7 = .ok (.ifCond .eq 12, 3) := by decide +kernel
theorem dX7_cheapest_10 : decode cX7_cheapest 10 = .ok (.iload_n 2, 1) := by decide +kernel
theorem dX7_cheapest_11 : decode cX7_cheapest 11 = .ok (.iconst 0, 1) := by decide +kernel
theorem dX7_cheapest_12 : decode cX7_cheapest 12 = .ok (.iconst 2, 1) := by decide +kernel
theorem dX7_cheapest_13 : decode cX7_cheapest 13 = .ok (.invokestatic 37, 3) := by decide +kernel
theorem dX7_cheapest_16 : decode cX7_cheapest 16 = .ok (.ifCond .ne 5, 3) := by decide +kernel
theorem dX7_cheapest_19 : decode cX7_cheapest 19 = .ok (.iconst (-1), 1) := by decide +kernel
theorem dX7_cheapest_20 : decode cX7_cheapest 20 = .ok (.ireturn, 1) := by decide +kernel
theorem dX7_cheapest_21 : decode cX7_cheapest 21 = .ok (.iconst (-1), 1) := by decide +kernel
theorem dX7_cheapest_22 : decode cX7_cheapest 22 = .ok (.istore_n 3, 1) := by decide +kernel
theorem dX7_cheapest_23 : decode cX7_cheapest 23 = .ok (.iconst 0, 1) := by decide +kernel
theorem dX7_cheapest_24 : decode cX7_cheapest 24 = .ok (.istore 4, 2) := by decide +kernel
theorem dX7_cheapest_26 : decode cX7_cheapest 26 = .ok (.iconst 0, 1) := by decide +kernel
theorem dX7_cheapest_27 : decode cX7_cheapest 27 = .ok (.istore 5, 2) := by decide +kernel
theorem dX7_cheapest_29 : decode cX7_cheapest 29 = .ok (.iconst 0, 1) := by decide +kernel
theorem dX7_cheapest_30 : decode cX7_cheapest 30 = .ok (.istore 6, 2) := by decide +kernel
theorem dX7_cheapest_32 : decode cX7_cheapest 32 = .ok (.iload 6, 2) := by decide +kernel
theorem dX7_cheapest_34 : decode cX7_cheapest 34 = .ok (.sipush 128, 3) := by decide +kernel
theorem dX7_cheapest_37 : decode cX7_cheapest 37 = .ok (.if_icmp .ge 148, 3) := by decide +kernel
theorem dX7_cheapest_40 : decode cX7_cheapest 40 = .ok (.iload 6, 2) := by decide +kernel
theorem dX7_cheapest_42 : decode cX7_cheapest 42 = .ok (.aload_n 0, 1) := by decide +kernel
theorem dX7_cheapest_43 : decode cX7_cheapest 43 = .ok (.getfield 7, 3) := by decide +kernel
theorem dX7_cheapest_46 : decode cX7_cheapest 46 = .ok (.bipush 7, 2) := by decide +kernel
theorem dX7_cheapest_48 : decode cX7_cheapest 48 = .ok (.iaload, 1) := by decide +kernel
theorem dX7_cheapest_49 : decode cX7_cheapest 49 = .ok (.iand, 1) := by decide +kernel
theorem dX7_cheapest_50 : decode cX7_cheapest 50 = .ok (.ifCond .eq 6, 3) := by decide +kernel
theorem dX7_cheapest_53 : decode cX7_cheapest 53 = .ok (.goto 126, 3) := by decide +kernel
theorem dX7_cheapest_56 : decode cX7_cheapest 56 = .ok (.iconst 0, 1) := by decide +kernel
theorem dX7_cheapest_57 : decode cX7_cheapest 57 = .ok (.istore 7, 2) := by decide +kernel
theorem dX7_cheapest_59 : decode cX7_cheapest 59 = .ok (.iconst 0, 1) := by decide +kernel
theorem dX7_cheapest_60 : decode cX7_cheapest 60 = .ok (.istore 8, 2) := by decide +kernel
theorem dX7_cheapest_62 : decode cX7_cheapest 62 = .ok (.iconst 0, 1) := by decide +kernel
theorem dX7_cheapest_63 : decode cX7_cheapest 63 = .ok (.istore 9, 2) := by decide +kernel
theorem dX7_cheapest_65 : decode cX7_cheapest 65 = .ok (.iload 9, 2) := by decide +kernel
theorem dX7_cheapest_67 : decode cX7_cheapest 67 = .ok (.bipush 7, 2) := by decide +kernel
theorem dX7_cheapest_69 : decode cX7_cheapest 69 = .ok (.if_icmp .ge 40, 3) := by decide +kernel
theorem dX7_cheapest_72 : decode cX7_cheapest 72 = .ok (.iload 6, 2) := by decide +kernel
theorem dX7_cheapest_74 : decode cX7_cheapest 74 = .ok (.iload 9, 2) := by decide +kernel
theorem dX7_cheapest_76 : decode cX7_cheapest 76 = .ok (.ishr, 1) := by decide +kernel
theorem dX7_cheapest_77 : decode cX7_cheapest 77 = .ok (.iconst 1, 1) := by decide +kernel
theorem dX7_cheapest_78 : decode cX7_cheapest 78 = .ok (.iand, 1) := by decide +kernel
theorem dX7_cheapest_79 : decode cX7_cheapest 79 = .ok (.ifCond .ne 6, 3) := by decide +kernel
theorem dX7_cheapest_82 : decode cX7_cheapest 82 = .ok (.goto 21, 3) := by decide +kernel
theorem dX7_cheapest_85 : decode cX7_cheapest 85 = .ok (.iload 7, 2) := by decide +kernel
theorem dX7_cheapest_87 : decode cX7_cheapest 87 = .ok (.aload_n 0, 1) := by decide +kernel
theorem dX7_cheapest_88 : decode cX7_cheapest 88 = .ok (.getfield 7, 3) := by decide +kernel
theorem dX7_cheapest_91 : decode cX7_cheapest 91 = .ok (.bipush 8, 2) := by decide +kernel
theorem dX7_cheapest_93 : decode cX7_cheapest 93 = .ok (.iload 9, 2) := by decide +kernel
theorem dX7_cheapest_95 : decode cX7_cheapest 95 = .ok (.iadd, 1) := by decide +kernel
theorem dX7_cheapest_96 : decode cX7_cheapest 96 = .ok (.iaload, 1) := by decide +kernel
theorem dX7_cheapest_97 : decode cX7_cheapest 97 = .ok (.iadd, 1) := by decide +kernel
theorem dX7_cheapest_98 : decode cX7_cheapest 98 = .ok (.istore 7, 2) := by decide +kernel
theorem dX7_cheapest_100 : decode cX7_cheapest 100 = .ok (.iinc 8 1, 3) := by decide +kernel
theorem dX7_cheapest_103 : decode cX7_cheapest 103 = .ok (.iinc 9 1, 3) := by decide +kernel
theorem dX7_cheapest_106 : decode cX7_cheapest 106 = .ok (.goto (-41), 3) := by decide +kernel
theorem dX7_cheapest_109 : decode cX7_cheapest 109 = .ok (.iload_n 3, 1) := by decide +kernel
theorem dX7_cheapest_110 : decode cX7_cheapest 110 = .ok (.iconst (-1), 1) := by decide +kernel
theorem dX7_cheapest_111 : decode cX7_cheapest 111 = .ok (.if_icmp .eq 24, 3) := by decide +kernel
theorem dX7_cheapest_114 : decode cX7_cheapest 114 = .ok (.iload 7, 2) := by decide +kernel
theorem dX7_cheapest_116 : decode cX7_cheapest 116 = .ok (.iload 4, 2) := by decide +kernel
theorem dX7_cheapest_118 : decode cX7_cheapest 118 = .ok (.if_icmp .lt 17, 3) := by decide +kernel
theorem dX7_cheapest_121 : decode cX7_cheapest 121 = .ok (.iload 7, 2) := by decide +kernel
theorem dX7_cheapest_123 : decode cX7_cheapest 123 = .ok (.iload 4, 2) := by decide +kernel
theorem dX7_cheapest_125 : decode cX7_cheapest 125 = .ok (.if_icmp .ne 14, 3) := by decide +kernel
theorem dX7_cheapest_128 : decode cX7_cheapest 128 = .ok (.iload 8, 2) := by decide +kernel
theorem dX7_cheapest_130 : decode cX7_cheapest 130 = .ok (.iload 5, 2) := by decide +kernel
theorem dX7_cheapest_132 : decode cX7_cheapest 132 = .ok (.if_icmp .ge 7, 3) := by decide +kernel
theorem dX7_cheapest_135 : decode cX7_cheapest 135 = .ok (.iconst 1, 1) := by decide +kernel
theorem dX7_cheapest_136 : decode cX7_cheapest 136 = .ok (.goto 4, 3) := by decide +kernel
theorem dX7_cheapest_139 : decode cX7_cheapest 139 = .ok (.iconst 0, 1) := by decide +kernel
theorem dX7_cheapest_140 : decode cX7_cheapest 140 = .ok (.istore 9, 2) := by decide +kernel
theorem dX7_cheapest_142 : decode cX7_cheapest 142 = .ok (.iload 9, 2) := by decide +kernel
theorem dX7_cheapest_144 : decode cX7_cheapest 144 = .ok (.ifCond .eq 35, 3) := by decide +kernel
theorem dX7_cheapest_147 : decode cX7_cheapest 147 = .ok (.aload_n 0, 1) := by decide +kernel
theorem dX7_cheapest_148 : decode cX7_cheapest 148 = .ok (.iload_n 1, 1) := by decide +kernel
theorem dX7_cheapest_149 : decode cX7_cheapest 149 = .ok (.aload_n 0, 1) := by decide +kernel
theorem dX7_cheapest_150 : decode cX7_cheapest 150 = .ok (.getfield 7, 3) := by decide +kernel
theorem dX7_cheapest_153 : decode cX7_cheapest 153 = .ok (.bipush 7, 2) := by decide +kernel
theorem dX7_cheapest_155 : decode cX7_cheapest 155 = .ok (.iaload, 1) := by decide +kernel
theorem dX7_cheapest_156 : decode cX7_cheapest 156 = .ok (.iload 6, 2) := by decide +kernel
theorem dX7_cheapest_158 : decode cX7_cheapest 158 = .ok (.ior, 1) := by decide +kernel
theorem dX7_cheapest_159 : decode cX7_cheapest 159 = .ok (.invokevirtual 114, 3) := by decide +kernel
theorem dX7_cheapest_162 : decode cX7_cheapest 162 = .ok (.ifCond .ne 6, 3) := by decide +kernel
theorem dX7_cheapest_165 : decode cX7_cheapest 165 = .ok (.goto 14, 3) := by decide +kernel
theorem dX7_cheapest_168 : decode cX7_cheapest 168 = .ok (.iload 6, 2) := by decide +kernel
theorem dX7_cheapest_170 : decode cX7_cheapest 170 = .ok (.istore_n 3, 1) := by decide +kernel
theorem dX7_cheapest_171 : decode cX7_cheapest 171 = .ok (.iload 7, 2) := by decide +kernel
theorem dX7_cheapest_173 : decode cX7_cheapest 173 = .ok (.istore 4, 2) := by decide +kernel
theorem dX7_cheapest_175 : decode cX7_cheapest 175 = .ok (.iload 8, 2) := by decide +kernel
theorem dX7_cheapest_177 : decode cX7_cheapest 177 = .ok (.istore 5, 2) := by decide +kernel
theorem dX7_cheapest_179 : decode cX7_cheapest 179 = .ok (.iinc 6 1, 3) := by decide +kernel
theorem dX7_cheapest_182 : decode cX7_cheapest 182 = .ok (.goto (-150), 3) := by decide +kernel
theorem dX7_cheapest_185 : decode cX7_cheapest 185 = .ok (.iload_n 3, 1) := by decide +kernel
theorem dX7_cheapest_186 : decode cX7_cheapest 186 = .ok (.iconst (-1), 1) := by decide +kernel
theorem dX7_cheapest_187 : decode cX7_cheapest 187 = .ok (.if_icmp .ne 7, 3) := by decide +kernel
theorem dX7_cheapest_190 : decode cX7_cheapest 190 = .ok (.iconst (-1), 1) := by decide +kernel
theorem dX7_cheapest_191 : decode cX7_cheapest 191 = .ok (.goto 23, 3) := by decide +kernel
theorem dX7_cheapest_194 : decode cX7_cheapest 194 = .ok (.iload_n 2, 1) := by decide +kernel
theorem dX7_cheapest_195 : decode cX7_cheapest 195 = .ok (.ifCond .ne 8, 3) := by decide +kernel
theorem dX7_cheapest_198 : decode cX7_cheapest 198 = .ok (.iload 4, 2) := by decide +kernel
theorem dX7_cheapest_200 : decode cX7_cheapest 200 = .ok (.goto 14, 3) := by decide +kernel
theorem dX7_cheapest_203 : decode cX7_cheapest 203 = .ok (.iload_n 2, 1) := by decide +kernel
theorem dX7_cheapest_204 : decode cX7_cheapest 204 = .ok (.iconst 1, 1) := by decide +kernel
theorem dX7_cheapest_205 : decode cX7_cheapest 205 = .ok (.if_icmp .ne 7, 3) := by decide +kernel
theorem dX7_cheapest_208 : decode cX7_cheapest 208 = .ok (.iload_n 3, 1) := by decide +kernel
theorem dX7_cheapest_209 : decode cX7_cheapest 209 = .ok (.goto 5, 3) := by decide +kernel
theorem dX7_cheapest_212 : decode cX7_cheapest 212 = .ok (.iload 5, 2) := by decide +kernel
theorem dX7_cheapest_214 : decode cX7_cheapest 214 = .ok (.ireturn, 1) := by decide +kernel
set_option maxRecDepth 20000 in
theorem ggX7_feed_X7_four : GoodIn wsX7_feed wsX7_four := goodIn_r _ [6, 7, 1, 8, 9, 10, 11, 12, 13, 14, 15, 16, 17, 18, 19, 20, 21, 22, 23, 24, 25] (by decide +kernel) (by decide +kernel)
set_option maxRecDepth 20000 in
theorem gX7_feed_X7_four : GoodIn wsX7_feed (wsV RX7 120 RX7 yX7_four wsX7_four) := goodIn_app (goodIn_of _ (by decide +kernel)) ggX7_feed_X7_four
theorem dX7_feed_0 : decode cX7_feed 0 = .ok (.aload_n 0, 1) := by decide +kernel
theorem dX7_feed_1 : decode cX7_feed 1 = .ok (.getfield 117, 3) := by decide +kernel
theorem dX7_feed_4 : decode cX7_feed 4 = .ok (.bipush 20, 2) := by decide +kernel
theorem dX7_feed_6 : decode cX7_feed 6 = .ok (.iadd, 1) := by decide +kernel
theorem dX7_feed_7 : decode cX7_feed 7 = .ok (.sipush 600, 3) := by decide +kernel
theorem dX7_feed_10 : decode cX7_feed 10 = .ok (.if_icmp .le 5, 3) := by decide +kernel
theorem dX7_feed_13 : decode cX7_feed 13 = .ok (.iconst (-1), 1) := by decide +kernel
theorem dX7_feed_14 : decode cX7_feed 14 = .ok (.ireturn, 1) := by decide +kernel
theorem dX7_feed_15 : decode cX7_feed 15 = .ok (.aload_n 0, 1) := by decide +kernel
theorem dX7_feed_16 : decode cX7_feed 16 = .ok (.iload_n 1, 1) := by decide +kernel
theorem dX7_feed_17 : decode cX7_feed 17 = .ok (.invokevirtual 120, 3) := by decide +kernel
theorem dX7_feed_20 : decode cX7_feed 20 = .ok (.aload_n 0, 1) := by decide +kernel
theorem dX7_feed_21 : decode cX7_feed 21 = .ok (.iload_n 2, 1) := by decide +kernel
theorem dX7_feed_22 : decode cX7_feed 22 = .ok (.invokevirtual 120, 3) := by decide +kernel
theorem dX7_feed_25 : decode cX7_feed 25 = .ok (.aload_n 0, 1) := by decide +kernel
theorem dX7_feed_26 : decode cX7_feed 26 = .ok (.iload_n 3, 1) := by decide +kernel
theorem dX7_feed_27 : decode cX7_feed 27 = .ok (.invokevirtual 120, 3) := by decide +kernel
theorem dX7_feed_30 : decode cX7_feed 30 = .ok (.aload_n 0, 1) := by decide +kernel
theorem dX7_feed_31 : decode cX7_feed 31 = .ok (.iload 4, 2) := by decide +kernel
theorem dX7_feed_33 : decode cX7_feed 33 = .ok (.invokevirtual 120, 3) := by decide +kernel
theorem dX7_feed_36 : decode cX7_feed 36 = .ok (.aload_n 0, 1) := by decide +kernel
theorem dX7_feed_37 : decode cX7_feed 37 = .ok (.iload 5, 2) := by decide +kernel
theorem dX7_feed_39 : decode cX7_feed 39 = .ok (.invokevirtual 120, 3) := by decide +kernel
theorem dX7_feed_42 : decode cX7_feed 42 = .ok (.aload_n 0, 1) := by decide +kernel
theorem dX7_feed_43 : decode cX7_feed 43 = .ok (.getfield 117, 3) := by decide +kernel
theorem dX7_feed_46 : decode cX7_feed 46 = .ok (.ireturn, 1) := by decide +kernel
theorem dX7_four_0 : decode cX7_four 0 = .ok (.bipush 24, 2) := by decide +kernel
theorem dX7_four_2 : decode cX7_four 2 = .ok (.istore_n 2, 1) := by decide +kernel
theorem dX7_four_3 : decode cX7_four 3 = .ok (.iload_n 2, 1) := by decide +kernel
theorem dX7_four_4 : decode cX7_four 4 = .ok (.ifCond .lt 32, 3) := by decide +kernel
theorem dX7_four_7 : decode cX7_four 7 = .ok (.aload_n 0, 1) := by decide +kernel
theorem dX7_four_8 : decode cX7_four 8 = .ok (.getfield 16, 3) := by decide +kernel
theorem dX7_four_11 : decode cX7_four 11 = .ok (.aload_n 0, 1) := by decide +kernel
theorem dX7_four_12 : decode cX7_four 12 = .ok (.getfield 117, 3) := by decide +kernel
theorem dX7_four_15 : decode cX7_four 15 = .ok (.iload_n 1, 1) := by decide +kernel
theorem dX7_four_16 : decode cX7_four 16 = .ok (.iload_n 2, 1) := by decide +kernel
theorem dX7_four_17 : decode cX7_four 17 = .ok (.ishr, 1) := by decide +kernel
theorem dX7_four_18 : decode cX7_four 18 = .ok (.i2b, 1) := by decide +kernel
theorem dX7_four_19 : decode cX7_four 19 = .ok (.bastore, 1) := by decide +kernel
theorem dX7_four_20 : decode cX7_four 20 = .ok (.aload_n 0, 1) := by decide +kernel
theorem dX7_four_21 : decode cX7_four 21 = .ok (.dup, 1) := by decide +kernel
theorem dX7_four_22 : decode cX7_four 22 = .ok (.getfield 117, 3) := by decide +kernel
theorem dX7_four_25 : decode cX7_four 25 = .ok (.iconst 1, 1) := by decide +kernel
theorem dX7_four_26 : decode cX7_four 26 = .ok (.iadd, 1) := by decide +kernel
theorem dX7_four_27 : decode cX7_four 27 = .ok (.putfield 117, 3) := by decide +kernel
theorem dX7_four_30 : decode cX7_four 30 = .ok (.iinc 2 (-8), 3) := by decide +kernel
theorem dX7_four_33 : decode cX7_four 33 = .ok (.goto (-30), 3) := by decide +kernel
theorem dX7_four_36 : decode cX7_four 36 = .ok (.return_, 1) := by decide +kernel
theorem dX7_blanks_0 : decode cX7_blanks 0 = .ok (.aload_n 0, 1) := by decide +kernel
theorem dX7_blanks_1 : decode cX7_blanks 1 = .ok (.getfield 123, 3) := by decide +kernel
theorem dX7_blanks_4 : decode cX7_blanks 4 = .ok (.aload_n 0, 1) := by decide +kernel
theorem dX7_blanks_5 : decode cX7_blanks 5 = .ok (.getfield 126, 3) := by decide +kernel
theorem dX7_blanks_8 : decode cX7_blanks 8 = .ok (.if_icmp .ge 44, 3) := by decide +kernel
theorem dX7_blanks_11 : decode cX7_blanks 11 = .ok (.aload_n 0, 1) := by decide +kernel
theorem dX7_blanks_12 : decode cX7_blanks 12 = .ok (.getfield 20, 3) := by decide +kernel
theorem dX7_blanks_15 : decode cX7_blanks 15 = .ok (.aload_n 0, 1) := by decide +kernel
theorem dX7_blanks_16 : decode cX7_blanks 16 = .ok (.getfield 123, 3) := by decide +kernel
theorem dX7_blanks_19 : decode cX7_blanks 19 = .ok (.baload, 1) := by decide +kernel
theorem dX7_blanks_20 : decode cX7_blanks 20 = .ok (.bipush 32, 2) := by decide +kernel
theorem dX7_blanks_22 : decode cX7_blanks 22 = .ok (.if_icmp .eq 17, 3) := by decide +kernel
theorem dX7_blanks_25 : decode cX7_blanks 25 = .ok (.aload_n 0, 1) := by decide +kernel
theorem dX7_blanks_26 : decode cX7_blanks 26 = .ok (.getfield 20, 3) := by decide +kernel
theorem dX7_blanks_29 : decode cX7_blanks 29 = .ok (.aload_n 0, 1) := by decide +kernel
theorem dX7_blanks_30 : decode cX7_blanks 30 = .ok (.getfield 123, 3) := by decide +kernel
theorem dX7_blanks_33 : decode cX7_blanks 33 = .ok (.baload, 1) := by decide +kernel
theorem dX7_blanks_34 : decode cX7_blanks 34 = .ok (.bipush 10, 2) := by decide +kernel
theorem dX7_blanks_36 : decode cX7_blanks 36 = .ok (.if_icmp .ne 16, 3) := by decide +kernel
theorem dX7_blanks_39 : decode cX7_blanks 39 = .ok (.aload_n 0, 1) := by decide +kernel
theorem dX7_blanks_40 : decode cX7_blanks 40 = .ok (.dup, 1) := by decide +kernel
theorem dX7_blanks_41 : decode cX7_blanks 41 = .ok (.getfield 123, 3) := by decide +kernel
theorem dX7_blanks_44 : decode cX7_blanks 44 = .ok (.iconst 1, 1) := by decide +kernel
theorem dX7_blanks_45 : decode cX7_blanks 45 = .ok (.iadd, 1) := by decide +kernel
theorem dX7_blanks_46 : decode cX7_blanks 46 = .ok (.putfield 123, 3) := by decide +kernel
theorem dX7_blanks_49 : decode cX7_blanks 49 = .ok (.goto (-49), 3) := by decide +kernel
theorem dX7_blanks_52 : decode cX7_blanks 52 = .ok (.return_, 1) := by decide +kernel
set_option maxRecDepth 20000 in
theorem ggX7_word_X7_blanks : GoodIn wsX7_word wsX7_blanks := goodIn_r _ [9, 1, 3, 4, 10, 11, 12, 13, 14, 15, 16, 17, 18, 19, 20, 21, 22, 23, 24, 25, 26, 27] (by decide +kernel) (by decide +kernel)
set_option maxRecDepth 20000 in
theorem gX7_word_X7_blanks : GoodIn wsX7_word (wsV RX7 129 RX7 yX7_blanks wsX7_blanks) := goodIn_app (goodIn_of _ (by decide +kernel)) ggX7_word_X7_blanks
theorem dX7_word_0 : decode cX7_word 0 = .ok (.aload_n 0, 1) := by decide +kernel
theorem dX7_word_1 : decode cX7_word 1 = .ok (.invokevirtual 129, 3) := by decide +kernel
theorem dX7_word_4 : decode cX7_word 4 = .ok (.aload_n 0, 1) := by decide +kernel
theorem dX7_word_5 : decode cX7_word 5 = .ok (.aload_n 0, 1) := by decide +kernel
theorem dX7_word_6 : decode cX7_word 6 = .ok (.getfield 123, 3) := by decide +kernel
theorem dX7_word_9 : decode cX7_word 9 = .ok (.putfield 132, 3) := by decide +kernel
theorem dX7_word_12 : decode cX7_word 12 = .ok (.lconst 0, 1) := by decide +kernel
theorem dX7_word_13 : decode cX7_word 13 = .ok (.lstore_n 1, 1) := by decide +kernel
theorem dX7_word_14 : decode cX7_word 14 = .ok (.aload_n 0, 1) := by decide +kernel
theorem dX7_word_15 : decode cX7_word 15 = .ok (.getfield 132, 3) := by decide +kernel
theorem dX7_word_18 : decode cX7_word 18 = .ok (.aload_n 0, 1) := by decide +kernel
theorem dX7_word_19 : decode cX7_word 19 = .ok (.getfield 126, 3) := by decide +kernel
theorem dX7_word_22 : decode cX7_word 22 = .ok (.if_icmp .ge 78, 3) := by decide +kernel
theorem dX7_word_25 : decode cX7_word 25 = .ok (.aload_n 0, 1) := by decide +kernel
theorem dX7_word_26 : decode cX7_word 26 = .ok (.getfield 20, 3) := by decide +kernel
theorem dX7_word_29 : decode cX7_word 29 = .ok (.aload_n 0, 1) := by decide +kernel
theorem dX7_word_30 : decode cX7_word 30 = .ok (.getfield 132, 3) := by decide +kernel
theorem dX7_word_33 : decode cX7_word 33 = .ok (.baload, 1) := by decide +kernel
theorem dX7_word_34 : decode cX7_word 34 = .ok (.bipush 97, 2) := by decide +kernel
theorem dX7_word_36 : decode cX7_word 36 = .ok (.if_icmp .lt 64, 3) := by decide +kernel
theorem dX7_word_39 : decode cX7_word 39 = .ok (.aload_n 0, 1) := by decide +kernel
theorem dX7_word_40 : decode cX7_word 40 = .ok (.getfield 20, 3) := by decide +kernel
theorem dX7_word_43 : decode cX7_word 43 = .ok (.aload_n 0, 1) := by decide +kernel
theorem dX7_word_44 : decode cX7_word 44 = .ok (.getfield 132, 3) := by decide +kernel
theorem dX7_word_47 : decode cX7_word 47 = .ok (.baload, 1) := by decide +kernel
theorem dX7_word_48 : decode cX7_word 48 = .ok (.bipush 122, 2) := by decide +kernel
theorem dX7_word_50 : decode cX7_word 50 = .ok (.if_icmp .gt 50, 3) := by decide +kernel
theorem dX7_word_53 : decode cX7_word 53 = .ok (.aload_n 0, 1) := by decide +kernel
theorem dX7_word_54 : decode cX7_word 54 = .ok (.getfield 132, 3) := by decide +kernel
theorem dX7_word_57 : decode cX7_word 57 = .ok (.aload_n 0, 1) := by decide +kernel
theorem dX7_word_58 : decode cX7_word 58 = .ok (.getfield 123, 3) := by decide +kernel
theorem dX7_word_61 : decode cX7_word 61 = .ok (.isub, 1) := by decide +kernel
theorem dX7_word_62 : decode cX7_word 62 = .ok (.bipush 7, 2) := by decide +kernel
theorem dX7_word_64 : decode cX7_word 64 = .ok (.if_icmp .ge 21, 3) := by decide +kernel
theorem dX7_word_67 : decode cX7_word 67 = .ok (.lload_n 1, 1) := by decide +kernel
theorem dX7_word_68 : decode cX7_word 68 = .ok (.bipush 8, 2) := by decide +kernel
theorem dX7_word_70 : decode cX7_word 70 = .ok (.lshl, 1) := by decide +kernel
theorem dX7_word_71 : decode cX7_word 71 = .ok (.aload_n 0, 1) := by decide +kernel
theorem dX7_word_72 : decode cX7_word 72 = .ok (.getfield 20, 3) := by decide +kernel
theorem dX7_word_75 : decode cX7_word 75 = .ok (.aload_n 0, 1) := by decide +kernel
theorem dX7_word_76 : decode cX7_word 76 = .ok (.getfield 132, 3) := by decide +kernel
theorem dX7_word_79 : decode cX7_word 79 = .ok (.baload, 1) := by decide +kernel
theorem dX7_word_80 : decode cX7_word 80 = .ok (.i2l, 1) := by decide +kernel
theorem dX7_word_81 : decode cX7_word 81 = .ok (.lor, 1) := by decide +kernel
theorem dX7_word_82 : decode cX7_word 82 = .ok (.goto 4, 3) := by decide +kernel
theorem dX7_word_85 : decode cX7_word 85 = .ok (.lconst 0, 1) := by decide +kernel
theorem dX7_word_86 : decode cX7_word 86 = .ok (.lstore_n 1, 1) := by decide +kernel
theorem dX7_word_87 : decode cX7_word 87 = .ok (.aload_n 0, 1) := by decide +kernel
theorem dX7_word_88 : decode cX7_word 88 = .ok (.dup, 1) := by decide +kernel
theorem dX7_word_89 : decode cX7_word 89 = .ok (.getfield 132, 3) := by decide +kernel
theorem dX7_word_92 : decode cX7_word 92 = .ok (.iconst 1, 1) := by decide +kernel
theorem dX7_word_93 : decode cX7_word 93 = .ok (.iadd, 1) := by decide +kernel
theorem dX7_word_94 : decode cX7_word 94 = .ok (.putfield 132, 3) := by decide +kernel
theorem dX7_word_97 : decode cX7_word 97 = .ok (.goto (-83), 3) := by decide +kernel
theorem dX7_word_100 : decode cX7_word 100 = .ok (.aload_n 0, 1) := by decide +kernel
theorem dX7_word_101 : decode cX7_word 101 = .ok (.getfield 132, 3) := by decide +kernel
theorem dX7_word_104 : decode cX7_word 104 = .ok (.aload_n 0, 1) := by decide +kernel
theorem dX7_word_105 : decode cX7_word 105 = .ok (.getfield 123, 3) := by decide +kernel
theorem dX7_word_108 : decode cX7_word 108 = .ok (.isub, 1) := by decide +kernel
theorem dX7_word_109 : decode cX7_word 109 = .ok (.bipush 7, 2) := by decide +kernel
theorem dX7_word_111 : decode cX7_word 111 = .ok (.if_icmp .le 7, 3) := by decide +kernel
theorem dX7_word_114 : decode cX7_word 114 = .ok (.lconst 0, 1) := by decide +kernel
theorem dX7_word_115 : decode cX7_word 115 = .ok (.goto 4, 3) := by decide +kernel
theorem dX7_word_118 : decode cX7_word 118 = .ok (.lload_n 1, 1) := by decide +kernel
theorem dX7_word_119 : decode cX7_word 119 = .ok (.lreturn, 1) := by decide +kernel
set_option maxRecDepth 20000 in
theorem ggX7_takes_X7_word : GoodIn wsX7_takes wsX7_word := goodIn_r _ [7, 2, 1, 8, 9, 10, 11, 12, 6, 13, 14, 15, 16, 17, 18, 19, 20, 21, 22, 23, 24, 25, 26, 27, 28, 29, 30, 31] (by decide +kernel) (by decide +kernel)
set_option maxRecDepth 20000 in
theorem gX7_takes_X7_word : GoodIn wsX7_takes (wsV RX7 135 RX7 yX7_word wsX7_word) := goodIn_app (goodIn_of _ (by decide +kernel)) ggX7_takes_X7_word
theorem dX7_takes_0 : decode cX7_takes 0 = .ok (.aload_n 0, 1) := by decide +kernel
theorem dX7_takes_1 : decode cX7_takes 1 = .ok (.invokevirtual 135, 3) := by decide +kernel
theorem dX7_takes_4 : decode cX7_takes 4 = .ok (.lload_n 1, 1) := by decide +kernel
theorem dX7_takes_5 : decode cX7_takes 5 = .ok (.lcmp, 1) := by decide +kernel
theorem dX7_takes_6 : decode cX7_takes 6 = .ok (.ifCond .eq 5, 3) := by decide +kernel
theorem dX7_takes_9 : decode cX7_takes 9 = .ok (.iconst 0, 1) := by decide +kernel
theorem dX7_takes_10 : decode cX7_takes 10 = .ok (.ireturn, 1) := by decide +kernel
theorem dX7_takes_11 : decode cX7_takes 11 = .ok (.aload_n 0, 1) := by decide +kernel
theorem dX7_takes_12 : decode cX7_takes 12 = .ok (.aload_n 0, 1) := by decide +kernel
theorem dX7_takes_13 : decode cX7_takes 13 = .ok (.getfield 132, 3) := by decide +kernel
theorem dX7_takes_16 : decode cX7_takes 16 = .ok (.putfield 123, 3) := by decide +kernel
theorem dX7_takes_19 : decode cX7_takes 19 = .ok (.iconst 1, 1) := by decide +kernel
theorem dX7_takes_20 : decode cX7_takes 20 = .ok (.ireturn, 1) := by decide +kernel
set_option maxRecDepth 20000 in
theorem ggX7_takesNumber_X7_blanks : GoodIn wsX7_takesNumber wsX7_blanks := goodIn_r _ [9, 1, 3, 4, 10, 11, 12, 13, 14, 15, 16, 17, 18, 19, 20, 21, 22, 23, 24, 25, 26, 27] (by decide +kernel) (by decide +kernel)
set_option maxRecDepth 20000 in
theorem gX7_takesNumber_X7_blanks : GoodIn wsX7_takesNumber (wsV RX7 129 RX7 yX7_blanks wsX7_blanks) := goodIn_app (goodIn_of _ (by decide +kernel)) ggX7_takesNumber_X7_blanks
theorem dX7_takesNumber_0 : decode cX7_takesNumber 0 = .ok (.aload_n 0, 1) := by decide +kernel
theorem dX7_takesNumber_1 : decode cX7_takesNumber 1 = .ok (.invokevirtual 129, 3) := by decide +kernel
theorem dX7_takesNumber_4 : decode cX7_takesNumber 4 = .ok (.aload_n 0, 1) := by decide +kernel
theorem dX7_takesNumber_5 : decode cX7_takesNumber 5 = .ok (.getfield 123, 3) := by decide +kernel
theorem dX7_takesNumber_8 : decode cX7_takesNumber 8 = .ok (.istore_n 3, 1) := by decide +kernel
theorem dX7_takesNumber_9 : decode cX7_takesNumber 9 = .ok (.aload_n 0, 1) := by decide +kernel
theorem dX7_takesNumber_10 : decode cX7_takesNumber 10 = .ok (.iconst 0, 1) := by decide +kernel
theorem dX7_takesNumber_11 : decode cX7_takesNumber 11 = .ok (.putfield 139, 3) := by decide +kernel
theorem dX7_takesNumber_14 : decode cX7_takesNumber 14 = .ok (.iload_n 3, 1) := by decide +kernel
theorem dX7_takesNumber_15 : decode cX7_takesNumber 15 = .ok (.aload_n 0, 1) := by decide +kernel
theorem dX7_takesNumber_16 : decode cX7_takesNumber 16 = .ok (.getfield 126, 3) := by decide +kernel
theorem dX7_takesNumber_19 : decode cX7_takesNumber 19 = .ok (.if_icmp .ge 62, 3) := by decide +kernel
theorem dX7_takesNumber_22 : decode cX7_takesNumber 22 = .ok (.aload_n 0, 1) := by decide +kernel
theorem dX7_takesNumber_23 : decode cX7_takesNumber 23 = .ok (.getfield 20, 3) := by decide +kernel
theorem dX7_takesNumber_26 : decode cX7_takesNumber 26 = .ok (.iload_n 3, 1) := by decide +kernel
theorem dX7_takesNumber_27 : decode cX7_takesNumber 27 = .ok (.baload, 1) := by decide +kernel
theorem dX7_takesNumber_28 : decode cX7_takesNumber 28 = .ok (.bipush 48, 2) := by decide +kernel
theorem dX7_takesNumber_30 : decode cX7_takesNumber 30 = .ok (.if_icmp .lt 51, 3) := by decide +kernel
theorem dX7_takesNumber_33 : decode cX7_takesNumber 33 = .ok (.aload_n 0, 1) := by decide +kernel
theorem dX7_takesNumber_34 : decode cX7_takesNumber 34 = .ok (.getfield 20, 3) := by decide +kernel
theorem dX7_takesNumber_37 : decode cX7_takesNumber 37 = .ok (.iload_n 3, 1) := by decide +kernel
theorem dX7_takesNumber_38 : decode cX7_takesNumber 38 = .ok (.baload, 1) := by decide +kernel
theorem dX7_takesNumber_39 : decode cX7_takesNumber 39 = .ok (.bipush 57, 2) := by decide +kernel
theorem dX7_takesNumber_41 : decode cX7_takesNumber 41 = .ok (.if_icmp .gt 40, 3) := by decide +kernel
theorem dX7_takesNumber_44 : decode cX7_takesNumber 44 = .ok (.iload_n 3, 1) := by decide +kernel
theorem dX7_takesNumber_45 : decode cX7_takesNumber 45 = .ok (.aload_n 0, 1) := by decide +kernel
theorem dX7_takesNumber_46 : decode cX7_takesNumber 46 = .ok (.getfield 123, 3) := by decide +kernel
theorem dX7_takesNumber_49 : decode cX7_takesNumber 49 = .ok (.isub, 1) := by decide +kernel
theorem dX7_takesNumber_50 : decode cX7_takesNumber 50 = .ok (.iconst 3, 1) := by decide +kernel
theorem dX7_takesNumber_51 : decode cX7_takesNumber 51 = .ok (.if_icmp .ge 24, 3) := by decide +kernel
theorem dX7_takesNumber_54 : decode cX7_takesNumber 54 = .ok (.aload_n 0, 1) := by decide +kernel
theorem dX7_takesNumber_55 : decode cX7_takesNumber 55 = .ok (.bipush 10, 2) := by decide +kernel
theorem dX7_takesNumber_57 : decode cX7_takesNumber 57 = .ok (.aload_n 0, 1) := by decide +kernel
theorem dX7_takesNumber_58 : decode cX7_takesNumber 58 = .ok (.getfield 139, 3) := by decide +kernel
theorem dX7_takesNumber_61 : decode cX7_takesNumber 61 = .ok (.imul, 1) := by decide +kernel
theorem dX7_takesNumber_62 : decode cX7_takesNumber 62 = .ok (.aload_n 0, 1) := by decide +kernel
theorem dX7_takesNumber_63 : decode cX7_takesNumber 63 = .ok (.getfield 20, 3) := by decide +kernel
theorem dX7_takesNumber_66 : decode cX7_takesNumber 66 = .ok (.iload_n 3, 1) := by decide +kernel
theorem dX7_takesNumber_67 : decode cX7_takesNumber 67 = .ok (.baload, 1) := by decide +kernel
theorem dX7_takesNumber_68 : decode cX7_takesNumber 68 = .ok (.iadd, 1) := by decide +kernel
theorem dX7_takesNumber_69 : decode cX7_takesNumber 69 = .ok (.bipush 48, 2) := by decide +kernel
theorem dX7_takesNumber_71 : decode cX7_takesNumber 71 = .ok (.isub, 1) := by decide +kernel
theorem dX7_takesNumber_72 : decode cX7_takesNumber 72 = .ok (.putfield 139, 3) := by decide +kernel
theorem dX7_takesNumber_75 : decode cX7_takesNumber 75 = .ok (.iinc 3 1, 3) := by decide +kernel
theorem dX7_takesNumber_78 : decode cX7_takesNumber 78 = .ok (.goto (-64), 3) := by decide +kernel
theorem dX7_takesNumber_81 : decode cX7_takesNumber 81 = .ok (.iload_n 3, 1) := by decide +kernel
theorem dX7_takesNumber_82 : decode cX7_takesNumber 82 = .ok (.aload_n 0, 1) := by decide +kernel
theorem dX7_takesNumber_83 : decode cX7_takesNumber 83 = .ok (.getfield 123, 3) := by decide +kernel
theorem dX7_takesNumber_86 : decode cX7_takesNumber 86 = .ok (.if_icmp .eq 29, 3) := by decide +kernel
theorem dX7_takesNumber_89 : decode cX7_takesNumber 89 = .ok (.iload_n 3, 1) := by decide +kernel
theorem dX7_takesNumber_90 : decode cX7_takesNumber 90 = .ok (.aload_n 0, 1) := by decide +kernel
theorem dX7_takesNumber_91 : decode cX7_takesNumber 91 = .ok (.getfield 123, 3) := by decide +kernel
theorem dX7_takesNumber_94 : decode cX7_takesNumber 94 = .ok (.isub, 1) := by decide +kernel
theorem dX7_takesNumber_95 : decode cX7_takesNumber 95 = .ok (.iconst 3, 1) := by decide +kernel
theorem dX7_takesNumber_96 : decode cX7_takesNumber 96 = .ok (.if_icmp .gt 19, 3) := by decide +kernel
theorem dX7_takesNumber_99 : decode cX7_takesNumber 99 = .ok (.aload_n 0, 1) := by decide +kernel
theorem dX7_takesNumber_100 : decode cX7_takesNumber 100 = .ok (.getfield 139, 3) := by decide +kernel
theorem dX7_takesNumber_103 : decode cX7_takesNumber 103 = .ok (.iload_n 1, 1) := by decide +kernel
theorem dX7_takesNumber_104 : decode cX7_takesNumber 104 = .ok (.if_icmp .gt 11, 3) := by decide +kernel
theorem dX7_takesNumber_107 : decode cX7_takesNumber 107 = .ok (.aload_n 0, 1) := by decide +kernel
theorem dX7_takesNumber_108 : decode cX7_takesNumber 108 = .ok (.getfield 139, 3) := by decide +kernel
theorem dX7_takesNumber_111 : decode cX7_takesNumber 111 = .ok (.iload_n 2, 1) := by decide +kernel
theorem dX7_takesNumber_112 : decode cX7_takesNumber 112 = .ok (.if_icmp .ne 5, 3) := by decide +kernel
theorem dX7_takesNumber_115 : decode cX7_takesNumber 115 = .ok (.iconst 0, 1) := by decide +kernel
theorem dX7_takesNumber_116 : decode cX7_takesNumber 116 = .ok (.ireturn, 1) := by decide +kernel
theorem dX7_takesNumber_117 : decode cX7_takesNumber 117 = .ok (.aload_n 0, 1) := by decide +kernel
theorem dX7_takesNumber_118 : decode cX7_takesNumber 118 = .ok (.iload_n 3, 1) := by decide +kernel
theorem dX7_takesNumber_119 : decode cX7_takesNumber 119 = .ok (.putfield 123, 3) := by decide +kernel
theorem dX7_takesNumber_122 : decode cX7_takesNumber 122 = .ok (.iconst 1, 1) := by decide +kernel
theorem dX7_takesNumber_123 : decode cX7_takesNumber 123 = .ok (.ireturn, 1) := by decide +kernel
set_option maxRecDepth 20000 in
theorem ggX7_isDigit_X7_blanks : GoodIn wsX7_isDigit wsX7_blanks := goodIn_r _ [8, 1, 2, 3, 9, 10, 11, 12, 13, 14, 15, 16, 17, 18, 19, 20, 21, 22, 23, 24, 25, 26] (by decide +kernel) (by decide +kernel)
set_option maxRecDepth 20000 in
theorem gX7_isDigit_X7_blanks : GoodIn wsX7_isDigit (wsV RX7 129 RX7 yX7_blanks wsX7_blanks) := goodIn_app (goodIn_of _ (by decide +kernel)) ggX7_isDigit_X7_blanks
theorem dX7_isDigit_0 : decode cX7_isDigit 0 = .ok (.aload_n 0, 1) := by decide +kernel
theorem dX7_isDigit_1 : decode cX7_isDigit 1 = .ok (.invokevirtual 129, 3) := by decide +kernel
theorem dX7_isDigit_4 : decode cX7_isDigit 4 = .ok (.aload_n 0, 1) := by decide +kernel
theorem dX7_isDigit_5 : decode cX7_isDigit 5 = .ok (.getfield 123, 3) := by decide +kernel
theorem dX7_isDigit_8 : decode cX7_isDigit 8 = .ok (.aload_n 0, 1) := by decide +kernel
theorem dX7_isDigit_9 : decode cX7_isDigit 9 = .ok (.getfield 126, 3) := by decide +kernel
theorem dX7_isDigit_12 : decode cX7_isDigit 12 = .ok (.if_icmp .ge 35, 3) := by decide +kernel
theorem dX7_isDigit_15 : decode cX7_isDigit 15 = .ok (.aload_n 0, 1) := by decide +kernel
theorem dX7_isDigit_16 : decode cX7_isDigit 16 = .ok (.getfield 20, 3) := by decide +kernel
theorem dX7_isDigit_19 : decode cX7_isDigit 19 = .ok (.aload_n 0, 1) := by decide +kernel
theorem dX7_isDigit_20 : decode cX7_isDigit 20 = .ok (.getfield 123, 3) := by decide +kernel
theorem dX7_isDigit_23 : decode cX7_isDigit 23 = .ok (.baload, 1) := by decide +kernel
theorem dX7_isDigit_24 : decode cX7_isDigit 24 = .ok (.bipush 48, 2) := by decide +kernel
theorem dX7_isDigit_26 : decode cX7_isDigit 26 = .ok (.if_icmp .lt 21, 3) := by decide +kernel
theorem dX7_isDigit_29 : decode cX7_isDigit 29 = .ok (.aload_n 0, 1) := by decide +kernel
theorem dX7_isDigit_30 : decode cX7_isDigit 30 = .ok (.getfield 20, 3) := by decide +kernel
theorem dX7_isDigit_33 : decode cX7_isDigit 33 = .ok (.aload_n 0, 1) := by decide +kernel
theorem dX7_isDigit_34 : decode cX7_isDigit 34 = .ok (.getfield 123, 3) := by decide +kernel
theorem dX7_isDigit_37 : decode cX7_isDigit 37 = .ok (.baload, 1) := by decide +kernel
theorem dX7_isDigit_38 : decode cX7_isDigit 38 = .ok (.bipush 57, 2) := by decide +kernel
theorem dX7_isDigit_40 : decode cX7_isDigit 40 = .ok (.if_icmp .gt 7, 3) := by decide +kernel
theorem dX7_isDigit_43 : decode cX7_isDigit 43 = .ok (.iconst 1, 1) := by decide +kernel
theorem dX7_isDigit_44 : decode cX7_isDigit 44 = .ok (.goto 4, 3) := by decide +kernel
theorem dX7_isDigit_47 : decode cX7_isDigit 47 = .ok (.iconst 0, 1) := by decide +kernel
theorem dX7_isDigit_48 : decode cX7_isDigit 48 = .ok (.ireturn, 1) := by decide +kernel
set_option maxRecDepth 20000 in
theorem ggX7_set_X7_isDigit : GoodIn wsX7_set wsX7_isDigit := goodIn_r _ [6, 7, 8, 9, 10, 11, 12, 5, 13, 18, 19, 20, 21, 22, 23, 24, 25, 26, 27, 28, 29, 30, 31, 32, 33, 34, 35] (by decide +kernel) (by decide +kernel)
set_option maxRecDepth 20000 in
theorem gX7_set_X7_isDigit : GoodIn wsX7_set (wsV RX7 142 RX7 yX7_isDigit wsX7_isDigit) := goodIn_app (goodIn_of _ (by decide +kernel)) ggX7_set_X7_isDigit
set_option maxRecDepth 20000 in
theorem ggX7_set_X7_takesNumber : GoodIn wsX7_set wsX7_takesNumber := goodIn_r _ [17, 7, 1, 8, 9, 10, 11, 12, 5, 13, 18, 19, 20, 21, 22, 23, 24, 25, 26, 27, 28, 29, 30, 31, 32, 33, 34, 35] (by decide +kernel) (by decide +kernel)
set_option maxRecDepth 20000 in
theorem gX7_set_X7_takesNumber : GoodIn wsX7_set (wsV RX7 146 RX7 yX7_takesNumber wsX7_takesNumber) := goodIn_app (goodIn_of _ (by decide +kernel)) ggX7_set_X7_takesNumber
theorem dX7_set_0 : decode cX7_set 0 = .ok (.iconst 0, 1) := by decide +kernel
theorem dX7_set_1 : decode cX7_set 1 = .ok (.istore_n 1, 1) := by decide +kernel
theorem dX7_set_2 : decode cX7_set 2 = .ok (.aload_n 0, 1) := by decide +kernel
theorem dX7_set_3 : decode cX7_set 3 = .ok (.invokevirtual 142, 3) := by decide +kernel
theorem dX7_set_6 : decode cX7_set 6 = .ok (.ifCond .eq 26, 3) := by decide +kernel
theorem dX7_set_9 : decode cX7_set 9 = .ok (.aload_n 0, 1) := by decide +kernel
theorem dX7_set_10 : decode cX7_set 10 = .ok (.iconst 3, 1) := by decide +kernel
theorem dX7_set_11 : decode cX7_set 11 = .ok (.iconst (-1), 1) := by decide +kernel
theorem dX7_set_12 : decode cX7_set 12 = .ok (.invokevirtual 146, 3) := by decide +kernel
theorem dX7_set_15 : decode cX7_set 15 = .ok (.ifCond .ne 5, 3) := by decide +kernel
theorem dX7_set_18 : decode cX7_set 18 = .ok (.iconst (-1), 1) := by decide +kernel
theorem dX7_set_19 : decode cX7_set 19 = .ok (.ireturn, 1) := by decide +kernel
theorem dX7_set_20 : decode cX7_set 20 = .ok (.iload_n 1, 1) := by decide +kernel
theorem dX7_set_21 : decode cX7_set 21 = .ok (.iconst 1, 1) := by decide +kernel
theorem dX7_set_22 : decode cX7_set 22 = .ok (.aload_n 0, 1) := by decide +kernel
theorem dX7_set_23 : decode cX7_set 23 = .ok (.getfield 139, 3) := by decide +kernel
theorem dX7_set_26 : decode cX7_set 26 = .ok (.ishl, 1) := by decide +kernel
theorem dX7_set_27 : decode cX7_set 27 = .ok (.ior, 1) := by decide +kernel
theorem dX7_set_28 : decode cX7_set 28 = .ok (.istore_n 1, 1) := by decide +kernel
theorem dX7_set_29 : decode cX7_set 29 = .ok (.goto (-27), 3) := by decide +kernel
theorem dX7_set_32 : decode cX7_set 32 = .ok (.iload_n 1, 1) := by decide +kernel
theorem dX7_set_33 : decode cX7_set 33 = .ok (.ireturn, 1) := by decide +kernel
set_option maxRecDepth 20000 in
theorem ggX7_name_X7_word : GoodIn wsX7_name wsX7_word := goodIn_r _ [10, 5, 4, 11, 12, 13, 14, 15, 9, 16, 17, 18, 19, 20, 21, 22, 23, 24, 25, 26, 27, 28, 29, 30, 31, 32, 33, 34] (by decide +kernel) (by decide +kernel)
set_option maxRecDepth 20000 in
theorem gX7_name_X7_word : GoodIn wsX7_name (wsV RX7 135 RX7 yX7_word wsX7_word) := goodIn_app (goodIn_of _ (by decide +kernel)) ggX7_name_X7_word
theorem dX7_name_0 : decode cX7_name 0 = .ok (.aload_n 0, 1) := by decide +kernel
theorem dX7_name_1 : decode cX7_name 1 = .ok (.invokevirtual 135, 3) := by decide +kernel
theorem dX7_name_4 : decode cX7_name 4 = .ok (.lstore_n 1, 1) := by decide +kernel
theorem dX7_name_5 : decode cX7_name 5 = .ok (.lload_n 1, 1) := by decide +kernel
theorem dX7_name_6 : decode cX7_name 6 = .ok (.ldc2_w 149, 3) := by decide +kernel
theorem dX7_name_9 : decode cX7_name 9 = .ok (.lcmp, 1) := by decide +kernel
theorem dX7_name_10 : decode cX7_name 10 = .ok (.ifCond .ne 7, 3) := by decide +kernel
theorem dX7_name_13 : decode cX7_name 13 = .ok (.iconst 0, 1) := by decide +kernel
theorem dX7_name_14 : decode cX7_name 14 = .ok (.goto 28, 3) := by decide +kernel
theorem dX7_name_17 : decode cX7_name 17 = .ok (.lload_n 1, 1) := by decide +kernel
theorem dX7_name_18 : decode cX7_name 18 = .ok (.ldc2_w 151, 3) := by decide +kernel
theorem dX7_name_21 : decode cX7_name 21 = .ok (.lcmp, 1) := by decide +kernel
theorem dX7_name_22 : decode cX7_name 22 = .ok (.ifCond .ne 7, 3) := by decide +kernel
theorem dX7_name_25 : decode cX7_name 25 = .ok (.iconst 1, 1) := by decide +kernel
theorem dX7_name_26 : decode cX7_name 26 = .ok (.goto 16, 3) := by decide +kernel
theorem dX7_name_29 : decode cX7_name 29 = .ok (.lload_n 1, 1) := by decide +kernel
theorem dX7_name_30 : decode cX7_name 30 = .ok (.ldc2_w 153, 3) := by decide +kernel
theorem dX7_name_33 : decode cX7_name 33 = .ok (.lcmp, 1) := by decide +kernel
theorem dX7_name_34 : decode cX7_name 34 = .ok (.ifCond .ne 7, 3) := by decide +kernel
theorem dX7_name_37 : decode cX7_name 37 = .ok (.iconst 2, 1) := by decide +kernel
theorem dX7_name_38 : decode cX7_name 38 = .ok (.goto 4, 3) := by decide +kernel
theorem dX7_name_41 : decode cX7_name 41 = .ok (.iconst (-1), 1) := by decide +kernel
theorem dX7_name_42 : decode cX7_name 42 = .ok (.istore_n 3, 1) := by decide +kernel
theorem dX7_name_43 : decode cX7_name 43 = .ok (.iload_n 3, 1) := by decide +kernel
theorem dX7_name_44 : decode cX7_name 44 = .ok (.iconst (-1), 1) := by decide +kernel
theorem dX7_name_45 : decode cX7_name 45 = .ok (.if_icmp .eq 11, 3) := by decide +kernel
theorem dX7_name_48 : decode cX7_name 48 = .ok (.aload_n 0, 1) := by decide +kernel
theorem dX7_name_49 : decode cX7_name 49 = .ok (.aload_n 0, 1) := by decide +kernel
theorem dX7_name_50 : decode cX7_name 50 = .ok (.getfield 132, 3) := by decide +kernel
theorem dX7_name_53 : decode cX7_name 53 = .ok (.putfield 123, 3) := by decide +kernel
theorem dX7_name_56 : decode cX7_name 56 = .ok (.iload_n 3, 1) := by decide +kernel
theorem dX7_name_57 : decode cX7_name 57 = .ok (.ireturn, 1) := by decide +kernel
set_option maxRecDepth 20000 in
theorem ggX7_statement_X7_takes : GoodIn wsX7_statement wsX7_takes := goodIn_r _ [18, 19, 11, 20, 21, 22, 17, 23, 12, 13, 24, 25, 26, 27, 57, 58, 59, 60, 61, 62, 63, 64, 65, 66, 67, 68, 69, 70, 71, 72, 73, 74] (by decide +kernel) (by decide +kernel)
set_option maxRecDepth 20000 in
theorem gX7_statement_X7_takes : GoodIn wsX7_statement (wsV RX7 157 RX7 yX7_takes wsX7_takes) := goodIn_app (goodIn_of _ (by decide +kernel)) ggX7_statement_X7_takes
set_option maxRecDepth 20000 in
theorem ggX7_statement_X7_takesNumber : GoodIn wsX7_statement wsX7_takesNumber := goodIn_r _ [31, 11, 2, 12, 13, 24, 25, 26, 17, 27, 57, 58, 59, 60, 61, 62, 63, 64, 65, 66, 67, 68, 69, 70, 71, 72, 73, 74] (by decide +kernel) (by decide +kernel)
set_option maxRecDepth 20000 in
theorem gX7_statement_X7_takesNumber : GoodIn wsX7_statement (wsV RX7 146 RX7 yX7_takesNumber wsX7_takesNumber) := goodIn_app (goodIn_of _ (by decide +kernel)) ggX7_statement_X7_takesNumber
set_option maxRecDepth 20000 in
theorem ggX7_statement_X7_set : GoodIn wsX7_statement wsX7_set := goodIn_r _ [35, 2, 36, 37, 38, 17, 39, 11, 12, 13, 24, 25, 26, 27, 28, 29, 30, 31, 57, 58, 59, 60, 61, 62, 63, 64, 65, 66, 67, 68, 69, 70, 71, 72, 73, 74] (by decide +kernel) (by decide +kernel)
set_option maxRecDepth 20000 in
theorem gX7_statement_X7_set : GoodIn wsX7_statement (wsV RX7 163 RX7 yX7_set wsX7_set) := goodIn_app (goodIn_of _ (by decide +kernel)) ggX7_statement_X7_set
set_option maxRecDepth 20000 in
theorem ggX7_statement_X7_name : GoodIn wsX7_statement wsX7_name := goodIn_r _ [43, 44, 45, 46, 19, 11, 20, 21, 22, 17, 23, 12, 13, 24, 25, 26, 27, 57, 58, 59, 60, 61, 62, 63, 64, 65, 66, 67, 68, 69, 70, 71, 72, 73, 74] (by decide +kernel) (by decide +kernel)
set_option maxRecDepth 20000 in
theorem gX7_statement_X7_name : GoodIn wsX7_statement (wsV RX7 173 RX7 yX7_name wsX7_name) := goodIn_app (goodIn_of _ (by decide +kernel)) ggX7_statement_X7_name
set_option maxRecDepth 20000 in
theorem ggX7_statement_X7_pair : GoodIn wsX7_statement wsX7_pair := goodIn_r _ [49, 50, 51, 52, 53, 54, 55, 56] (by decide +kernel) (by decide +kernel)
set_option maxRecDepth 20000 in
theorem gX7_statement_X7_pair : GoodIn wsX7_statement (va_wsS RX7 62 yX7_pair wsX7_pair) := goodIn_app (goodIn_of _ (by decide +kernel)) ggX7_statement_X7_pair
set_option maxRecDepth 20000 in
theorem ggX7_statement_X7_blanks : GoodIn wsX7_statement wsX7_blanks := goodIn_r _ [27, 11, 12, 13, 57, 58, 59, 60, 61, 62, 63, 64, 65, 66, 67, 68, 69, 70, 71, 72, 73, 74] (by decide +kernel) (by decide +kernel)
set_option maxRecDepth 20000 in
theorem gX7_statement_X7_blanks : GoodIn wsX7_statement (wsV RX7 129 RX7 yX7_blanks wsX7_blanks) := goodIn_app (goodIn_of _ (by decide +kernel)) ggX7_statement_X7_blanks
theorem dX7_statement_0 : decode cX7_statement 0 = .ok (.aload_n 0, 1) := by decide +kernel
theorem dX7_statement_1 : decode cX7_statement 1 = .ok (.ldc2_w 155, 3) := by decide +kernel
theorem dX7_statement_4 : decode cX7_statement 4 = .ok (.invokevirtual 157, 3) := by decide +kernel
theorem dX7_statement_7 : decode cX7_statement 7 = .ok (.ifCond .eq 62, 3) := by decide +kernel
theorem dX7_statement_10 : decode cX7_statement 10 = .ok (.aload_n 0, 1) := by decide +kernel
theorem dX7_statement_11 : decode cX7_statement 11 = .ok (.iconst 4, 1) := by decide +kernel
theorem dX7_statement_12 : decode cX7_statement 12 = .ok (.iconst (-1), 1) := by decide +kernel
theorem dX7_statement_13 : decode cX7_statement 13 = .ok (.invokevirtual 146, 3) := by decide +kernel
theorem dX7_statement_16 : decode cX7_statement 16 = .ok (.ifCond .ne 5, 3) := by decide +kernel
theorem dX7_statement_19 : decode cX7_statement 19 = .ok (.iconst 0, 1) := by decide +kernel
theorem dX7_statement_20 : decode cX7_statement 20 = .ok (.ireturn, 1) := by decide +kernel
theorem dX7_statement_21 : decode cX7_statement 21 = .ok (.aload_n 0, 1) := by decide +kernel
theorem dX7_statement_22 : decode cX7_statement 22 = .ok (.getfield 139, 3) := by decide +kernel
theorem dX7_statement_25 : decode cX7_statement 25 = .ok (.istore_n 1, 1) := by decide +kernel
theorem dX7_statement_26 : decode cX7_statement 26 = .ok (.aload_n 0, 1) := by decide +kernel
theorem dX7_statement_27 : decode cX7_statement 27 = .ok (.ldc2_w 161, 3) := by decide +kernel
theorem dX7_statement_30 : decode cX7_statement 30 = .ok (.invokevirtual 157, 3) := by decide +kernel
theorem dX7_statement_33 : decode cX7_statement 33 = .ok (.ifCond .ne 5, 3) := by decide +kernel
theorem dX7_statement_36 : decode cX7_statement 36 = .ok (.iconst 0, 1) := by decide +kernel
theorem dX7_statement_37 : decode cX7_statement 37 = .ok (.ireturn, 1) := by decide +kernel
theorem dX7_statement_38 : decode cX7_statement 38 = .ok (.aload_n 0, 1) := by decide +kernel
theorem dX7_statement_39 : decode cX7_statement 39 = .ok (.getfield 7, 3) := by decide +kernel
theorem dX7_statement_42 : decode cX7_statement 42 = .ok (.bipush 25, 2) := by decide +kernel
theorem dX7_statement_44 : decode cX7_statement 44 = .ok (.iload_n 1, 1) := by decide +kernel
theorem dX7_statement_45 : decode cX7_statement 45 = .ok (.iadd, 1) := by decide +kernel
theorem dX7_statement_46 : decode cX7_statement 46 = .ok (.aload_n 0, 1) := by decide +kernel
theorem dX7_statement_47 : decode cX7_statement 47 = .ok (.invokevirtual 163, 3) := by decide +kernel
theorem dX7_statement_50 : decode cX7_statement 50 = .ok (.iastore, 1) := by decide +kernel
theorem dX7_statement_51 : decode cX7_statement 51 = .ok (.aload_n 0, 1) := by decide +kernel
theorem dX7_statement_52 : decode cX7_statement 52 = .ok (.getfield 7, 3) := by decide +kernel
theorem dX7_statement_55 : decode cX7_statement 55 = .ok (.bipush 25, 2) := by decide +kernel
theorem dX7_statement_57 : decode cX7_statement 57 = .ok (.iload_n 1, 1) := by decide +kernel
theorem dX7_statement_58 : decode cX7_statement 58 = .ok (.iadd, 1) := by decide +kernel
theorem dX7_statement_59 : decode cX7_statement 59 = .ok (.iaload, 1) := by decide +kernel
theorem dX7_statement_60 : decode cX7_statement 60 = .ok (.iconst (-1), 1) := by decide +kernel
theorem dX7_statement_61 : decode cX7_statement 61 = .ok (.if_icmp .ne 5, 3) := by decide +kernel
theorem dX7_statement_64 : decode cX7_statement 64 = .ok (.iconst 0, 1) := by decide +kernel
theorem dX7_statement_65 : decode cX7_statement 65 = .ok (.ireturn, 1) := by decide +kernel
theorem dX7_statement_66 : decode cX7_statement 66 = .ok (.goto 281, 3) := by decide +kernel
theorem dX7_statement_69 : decode cX7_statement 69 = .ok (.aload_n 0, 1) := by decide +kernel
theorem dX7_statement_70 : decode cX7_statement 70 = .ok (.ldc2_w 167, 3) := by decide +kernel
theorem dX7_statement_73 : decode cX7_statement 73 = .ok (.invokevirtual 157, 3) := by decide +kernel
theorem dX7_statement_76 : decode cX7_statement 76 = .ok (.ifCond .eq 27, 3) := by decide +kernel
theorem dX7_statement_79 : decode cX7_statement 79 = .ok (.aload_n 0, 1) := by decide +kernel
theorem dX7_statement_80 : decode cX7_statement 80 = .ok (.getfield 7, 3) := by decide +kernel
theorem dX7_statement_83 : decode cX7_statement 83 = .ok (.bipush 30, 2) := by decide +kernel
theorem dX7_statement_85 : decode cX7_statement 85 = .ok (.aload_n 0, 1) := by decide +kernel
theorem dX7_statement_86 : decode cX7_statement 86 = .ok (.invokevirtual 163, 3) := by decide +kernel
theorem dX7_statement_89 : decode cX7_statement 89 = .ok (.iastore, 1) := by decide +kernel
theorem dX7_statement_90 : decode cX7_statement 90 = .ok (.aload_n 0, 1) := by decide +kernel
theorem dX7_statement_91 : decode cX7_statement 91 = .ok (.getfield 7, 3) := by decide +kernel
theorem dX7_statement_94 : decode cX7_statement 94 = .ok (.bipush 30, 2) := by decide +kernel
theorem dX7_statement_96 : decode cX7_statement 96 = .ok (.iaload, 1) := by decide +kernel
theorem dX7_statement_97 : decode cX7_statement 97 = .ok (.iconst (-1), 1) := by decide +kernel
theorem dX7_statement_98 : decode cX7_statement 98 = .ok (.if_icmp .ne 249, 3) := by decide +kernel
theorem dX7_statement_101 : decode cX7_statement 101 = .ok (.iconst 0, 1) := by decide +kernel
theorem dX7_statement_102 : decode cX7_statement 102 = .ok (.ireturn, 1) := by decide +kernel
theorem dX7_statement_103 : decode cX7_statement 103 = .ok (.aload_n 0, 1) := by decide +kernel
theorem dX7_statement_104 : decode cX7_statement 104 = .ok (.ldc2_w 169, 3) := by decide +kernel
theorem dX7_statement_107 : decode cX7_statement 107 = .ok (.invokevirtual 157, 3) := by decide +kernel
theorem dX7_statement_110 : decode cX7_statement 110 = .ok (.ifCond .eq 28, 3) := by decide +kernel
theorem dX7_statement_113 : decode cX7_statement 113 = .ok (.aload_n 0, 1) := by decide +kernel
theorem dX7_statement_114 : decode cX7_statement 114 = .ok (.iconst 3, 1) := by decide +kernel
theorem dX7_statement_115 : decode cX7_statement 115 = .ok (.iconst (-1), 1) := by decide +kernel
theorem dX7_statement_116 : decode cX7_statement 116 = .ok (.invokevirtual 146, 3) := by decide +kernel
theorem dX7_statement_119 : decode cX7_statement 119 = .ok (.ifCond .ne 5, 3) := by decide +kernel
theorem dX7_statement_122 : decode cX7_statement 122 = .ok (.iconst 0, 1) := by decide +kernel
theorem dX7_statement_123 : decode cX7_statement 123 = .ok (.ireturn, 1) := by decide +kernel
theorem dX7_statement_124 : decode cX7_statement 124 = .ok (.aload_n 0, 1) := by decide +kernel
theorem dX7_statement_125 : decode cX7_statement 125 = .ok (.getfield 7, 3) := by decide +kernel
theorem dX7_statement_128 : decode cX7_statement 128 = .ok (.bipush 31, 2) := by decide +kernel
theorem dX7_statement_130 : decode cX7_statement 130 = .ok (.aload_n 0, 1) := by decide +kernel
theorem dX7_statement_131 : decode cX7_statement 131 = .ok (.getfield 139, 3) := by decide +kernel
theorem dX7_statement_134 : decode cX7_statement 134 = .ok (.iastore, 1) := by decide +kernel
theorem dX7_statement_135 : decode cX7_statement 135 = .ok (.goto 212, 3) := by decide +kernel
theorem dX7_statement_138 : decode cX7_statement 138 = .ok (.aload_n 0, 1) := by decide +kernel
theorem dX7_statement_139 : decode cX7_statement 139 = .ok (.ldc2_w 171, 3) := by decide +kernel
theorem dX7_statement_142 : decode cX7_statement 142 = .ok (.invokevirtual 157, 3) := by decide +kernel
theorem dX7_statement_145 : decode cX7_statement 145 = .ok (.ifCond .eq 31, 3) := by decide +kernel
theorem dX7_statement_148 : decode cX7_statement 148 = .ok (.aload_n 0, 1) := by decide +kernel
theorem dX7_statement_149 : decode cX7_statement 149 = .ok (.invokevirtual 173, 3) := by decide +kernel
theorem dX7_statement_152 : decode cX7_statement 152 = .ok (.istore_n 1, 1) := by decide +kernel
theorem dX7_statement_153 : decode cX7_statement 153 = .ok (.iload_n 1, 1) := by decide +kernel
theorem dX7_statement_154 : decode cX7_statement 154 = .ok (.iconst (-1), 1) := by decide +kernel
theorem dX7_statement_155 : decode cX7_statement 155 = .ok (.if_icmp .ne 5, 3) := by decide +kernel
theorem dX7_statement_158 : decode cX7_statement 158 = .ok (.iconst 0, 1) := by decide +kernel
theorem dX7_statement_159 : decode cX7_statement 159 = .ok (.ireturn, 1) := by decide +kernel
theorem dX7_statement_160 : decode cX7_statement 160 = .ok (.aload_n 0, 1) := by decide +kernel
theorem dX7_statement_161 : decode cX7_statement 161 = .ok (.getfield 7, 3) := by decide +kernel
theorem dX7_statement_164 : decode cX7_statement 164 = .ok (.bipush 32, 2) := by decide +kernel
theorem dX7_statement_166 : decode cX7_statement 166 = .ok (.dup2, 1) := by decide +kernel
theorem dX7_statement_167 : decode cX7_statement 167 = .ok (.iaload, 1) := by decide +kernel
theorem dX7_statement_168 : decode cX7_statement 168 = .ok (.iconst 1, 1) := by decide +kernel
theorem dX7_statement_169 : decode cX7_statement 169 = .ok (.iload_n 1, 1) := by decide +kernel
theorem dX7_statement_170 : decode cX7_statement 170 = .ok (.ishl, 1) := by decide +kernel
theorem dX7_statement_171 : decode cX7_statement 171 = .ok (.ior, 1) := by decide +kernel
theorem dX7_statement_172 : decode cX7_statement 172 = .ok (.iastore, 1) := by decide +kernel
theorem dX7_statement_173 : decode cX7_statement 173 = .ok (.goto 174, 3) := by decide +kernel
theorem dX7_statement_176 : decode cX7_statement 176 = .ok (.aload_n 0, 1) := by decide +kernel
theorem dX7_statement_177 : decode cX7_statement 177 = .ok (.ldc2_w 176, 3) := by decide +kernel
theorem dX7_statement_180 : decode cX7_statement 180 = .ok (.invokevirtual 157, 3) := by decide +kernel
theorem dX7_statement_183 : decode cX7_statement 183 = .ok (.ifCond .eq 34, 3) := by decide +kernel
theorem dX7_statement_186 : decode cX7_statement 186 = .ok (.aload_n 0, 1) := by decide +kernel
theorem dX7_statement_187 : decode cX7_statement 187 = .ok (.iconst 3, 1) := by decide +kernel
theorem dX7_statement_188 : decode cX7_statement 188 = .ok (.iconst (-1), 1) := by decide +kernel
theorem dX7_statement_189 : decode cX7_statement 189 = .ok (.invokevirtual 146, 3) := by decide +kernel
theorem dX7_statement_192 : decode cX7_statement 192 = .ok (.ifCond .ne 5, 3) := by decide +kernel
theorem dX7_statement_195 : decode cX7_statement 195 = .ok (.iconst 0, 1) := by decide +kernel
theorem dX7_statement_196 : decode cX7_statement 196 = .ok (.ireturn, 1) := by decide +kernel
theorem dX7_statement_197 : decode cX7_statement 197 = .ok (.aload_n 0, 1) := by decide +kernel
theorem dX7_statement_198 : decode cX7_statement 198 = .ok (.getfield 7, 3) := by decide +kernel
theorem dX7_statement_201 : decode cX7_statement 201 = .ok (.bipush 32, 2) := by decide +kernel
theorem dX7_statement_203 : decode cX7_statement 203 = .ok (.dup2, 1) := by decide +kernel
theorem dX7_statement_204 : decode cX7_statement 204 = .ok (.iaload, 1) := by decide +kernel
theorem dX7_statement_205 : decode cX7_statement 205 = .ok (.bipush 8, 2) := by decide +kernel
theorem dX7_statement_207 : decode cX7_statement 207 = .ok (.aload_n 0, 1) := by decide +kernel
theorem dX7_statement_208 : decode cX7_statement 208 = .ok (.getfield 139, 3) := by decide +kernel
theorem dX7_statement_211 : decode cX7_statement 211 = .ok (.ishl, 1) := by decide +kernel
theorem dX7_statement_212 : decode cX7_statement 212 = .ok (.ior, 1) := by decide +kernel
theorem dX7_statement_213 : decode cX7_statement 213 = .ok (.iastore, 1) := by decide +kernel
theorem dX7_statement_214 : decode cX7_statement 214 = .ok (.goto 133, 3) := by decide +kernel
theorem dX7_statement_217 : decode cX7_statement 217 = .ok (.aload_n 0, 1) := by decide +kernel
theorem dX7_statement_218 : decode cX7_statement 218 = .ok (.ldc2_w 178, 3) := by decide +kernel
theorem dX7_statement_221 : decode cX7_statement 221 = .ok (.invokevirtual 157, 3) := by decide +kernel
theorem dX7_statement_224 : decode cX7_statement 224 = .ok (.ifCond .eq 69, 3) := by decide +kernel
theorem dX7_statement_227 : decode cX7_statement 227 = .ok (.aload_n 0, 1) := by decide +kernel
theorem dX7_statement_228 : decode cX7_statement 228 = .ok (.invokevirtual 173, 3) := by decide +kernel
theorem dX7_statement_231 : decode cX7_statement 231 = .ok (.istore_n 1, 1) := by decide +kernel
theorem dX7_statement_232 : decode cX7_statement 232 = .ok (.iload_n 1, 1) := by decide +kernel
theorem dX7_statement_233 : decode cX7_statement 233 = .ok (.iconst (-1), 1) := by decide +kernel
theorem dX7_statement_234 : decode cX7_statement 234 = .ok (.if_icmp .ne 31, 3) := by decide +kernel
theorem dX7_statement_237 : decode cX7_statement 237 = .ok (.aload_n 0, 1) := by decide +kernel
theorem dX7_statement_238 : decode cX7_statement 238 = .ok (.ldc2_w 176, 3) := by decide +kernel
theorem dX7_statement_241 : decode cX7_statement 241 = .ok (.invokevirtual 157, 3) := by decide +kernel
theorem dX7_statement_244 : decode cX7_statement 244 = .ok (.ifCond .eq 12, 3) := by decide +kernel
theorem dX7_statement_247 : decode cX7_statement 247 = .ok (.aload_n 0, 1) := by decide +kernel
theorem dX7_statement_248 : decode cX7_statement 248 = .ok (.iconst 3, 1) := by decide +kernel
theorem dX7_statement_249 : decode cX7_statement 249 = .ok (.iconst (-1), 1) := by decide +kernel
theorem dX7_statement_250 : decode cX7_statement 250 = .ok (.invokevirtual 146, 3) := by decide +kernel
theorem dX7_statement_253 : decode cX7_statement 253 = .ok (.ifCond .ne 5, 3) := by decide +kernel
theorem dX7_statement_256 : decode cX7_statement 256 = .ok (.iconst 0, 1) := by decide +kernel
theorem dX7_statement_257 : decode cX7_statement 257 = .ok (.ireturn, 1) := by decide +kernel
theorem dX7_statement_258 : decode cX7_statement 258 = .ok (.iconst 3, 1) := by decide +kernel
theorem dX7_statement_259 : decode cX7_statement 259 = .ok (.aload_n 0, 1) := by decide +kernel
theorem dX7_statement_260 : decode cX7_statement 260 = .ok (.getfield 139, 3) := by decide +kernel
theorem dX7_statement_263 : decode cX7_statement 263 = .ok (.iadd, 1) := by decide +kernel
theorem dX7_statement_264 : decode cX7_statement 264 = .ok (.istore_n 1, 1) := by decide +kernel
theorem dX7_statement_265 : decode cX7_statement 265 = .ok (.aload_n 0, 1) := by decide +kernel
theorem dX7_statement_266 : decode cX7_statement 266 = .ok (.bipush 100, 2) := by decide +kernel
theorem dX7_statement_268 : decode cX7_statement 268 = .ok (.iconst (-1), 1) := by decide +kernel
theorem dX7_statement_269 : decode cX7_statement 269 = .ok (.invokevirtual 146, 3) := by decide +kernel
theorem dX7_statement_272 : decode cX7_statement 272 = .ok (.ifCond .ne 5, 3) := by decide +kernel
theorem dX7_statement_275 : decode cX7_statement 275 = .ok (.iconst 0, 1) := by decide +kernel
theorem dX7_statement_276 : decode cX7_statement 276 = .ok (.ireturn, 1) := by decide +kernel
theorem dX7_statement_277 : decode cX7_statement 277 = .ok (.aload_n 0, 1) := by decide +kernel
theorem dX7_statement_278 : decode cX7_statement 278 = .ok (.getfield 7, 3) := by decide +kernel
theorem dX7_statement_281 : decode cX7_statement 281 = .ok (.bipush 33, 2) := by decide +kernel
theorem dX7_statement_283 : decode cX7_statement 283 = .ok (.iload_n 1, 1) := by decide +kernel
theorem dX7_statement_284 : decode cX7_statement 284 = .ok (.iadd, 1) := by decide +kernel
theorem dX7_statement_285 : decode cX7_statement 285 = .ok (.aload_n 0, 1) := by decide +kernel
theorem dX7_statement_286 : decode cX7_statement 286 = .ok (.getfield 139, 3) := by decide +kernel
theorem dX7_statement_289 : decode cX7_statement 289 = .ok (.iastore, 1) := by decide +kernel
theorem dX7_statement_290 : decode cX7_statement 290 = .ok (.goto 57, 3) := by decide +kernel
theorem dX7_statement_293 : decode cX7_statement 293 = .ok (.aload_n 0, 1) := by decide +kernel
theorem dX7_statement_294 : decode cX7_statement 294 = .ok (.ldc2_w 180, 3) := by decide +kernel
theorem dX7_statement_297 : decode cX7_statement 297 = .ok (.invokevirtual 157, 3) := by decide +kernel
theorem dX7_statement_300 : decode cX7_statement 300 = .ok (.ifCond .eq 12, 3) := by decide +kernel
theorem dX7_statement_303 : decode cX7_statement 303 = .ok (.aload_n 0, 1) := by decide +kernel
theorem dX7_statement_304 : decode cX7_statement 304 = .ok (.iconst 4, 1) := by decide +kernel
theorem dX7_statement_305 : decode cX7_statement 305 = .ok (.iconst (-1), 1) := by decide +kernel
theorem dX7_statement_306 : decode cX7_statement 306 = .ok (.invokevirtual 146, 3) := by decide +kernel
theorem dX7_statement_309 : decode cX7_statement 309 = .ok (.ifCond .ne 5, 3) := by decide +kernel
theorem dX7_statement_312 : decode cX7_statement 312 = .ok (.iconst 0, 1) := by decide +kernel
theorem dX7_statement_313 : decode cX7_statement 313 = .ok (.ireturn, 1) := by decide +kernel
theorem dX7_statement_314 : decode cX7_statement 314 = .ok (.aload_n 0, 1) := by decide +kernel
theorem dX7_statement_315 : decode cX7_statement 315 = .ok (.getfield 139, 3) := by decide +kernel
theorem dX7_statement_318 : decode cX7_statement 318 = .ok (.istore_n 1, 1) := by decide +kernel
theorem dX7_statement_319 : decode cX7_statement 319 = .ok (.aload_n 0, 1) := by decide +kernel
theorem dX7_statement_320 : decode cX7_statement 320 = .ok (.iconst 4, 1) := by decide +kernel
theorem dX7_statement_321 : decode cX7_statement 321 = .ok (.iload_n 1, 1) := by decide +kernel
theorem dX7_statement_322 : decode cX7_statement 322 = .ok (.invokevirtual 146, 3) := by decide +kernel
theorem dX7_statement_325 : decode cX7_statement 325 = .ok (.ifCond .ne 5, 3) := by decide +kernel
theorem dX7_statement_328 : decode cX7_statement 328 = .ok (.iconst 0, 1) := by decide +kernel
theorem dX7_statement_329 : decode cX7_statement 329 = .ok (.ireturn, 1) := by decide +kernel
theorem dX7_statement_330 : decode cX7_statement 330 = .ok (.aload_n 0, 1) := by decide +kernel
theorem dX7_statement_331 : decode cX7_statement 331 = .ok (.getfield 7, 3) := by decide +kernel
theorem dX7_statement_334 : decode cX7_statement 334 = .ok (.bipush 40, 2) := by decide +kernel
theorem dX7_statement_336 : decode cX7_statement 336 = .ok (.iload_n 1, 1) := by decide +kernel
theorem dX7_statement_337 : decode cX7_statement 337 = .ok (.aload_n 0, 1) := by decide +kernel
theorem dX7_statement_338 : decode cX7_statement 338 = .ok (.getfield 139, 3) := by decide +kernel
theorem dX7_statement_341 : decode cX7_statement 341 = .ok (.invokestatic 62, 3) := by decide +kernel
theorem dX7_statement_344 : decode cX7_statement 344 = .ok (.iadd, 1) := by decide +kernel
theorem dX7_statement_345 : decode cX7_statement 345 = .ok (.iconst 1, 1) := by decide +kernel
theorem dX7_statement_346 : decode cX7_statement 346 = .ok (.iastore, 1) := by decide +kernel
theorem dX7_statement_347 : decode cX7_statement 347 = .ok (.aload_n 0, 1) := by decide +kernel
theorem dX7_statement_348 : decode cX7_statement 348 = .ok (.invokevirtual 129, 3) := by decide +kernel
theorem dX7_statement_351 : decode cX7_statement 351 = .ok (.aload_n 0, 1) := by decide +kernel
