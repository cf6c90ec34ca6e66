set_option maxRecDepth 20000 in
theorem ggX0_isSafe_X6_greatestOf : GoodIn wsX0_isSafe wsX6_greatestOf := goodIn_r _ [5] (by decide +kernel) (by decide +kernel)
set_option maxRecDepth 20000 in
theorem gX0_isSafe_X6_greatestOf_n46 : GoodIn wsX0_isSafe (wsX6_greatestOf) := ggX0_isSafe_X6_greatestOf
set_option maxRecDepth 20000 in
theorem ggX0_isSafe_X0_search : GoodIn wsX0_isSafe wsX0_search := goodIn_r _ [10, 11, 1, 12, 13, 14, 15, 2, 16, 17, 18, 19, 20, 21, 22, 23, 24, 9, 25, 3, 4, 5, 26, 27, 28, 29, 30, 31, 32, 33, 34, 35, 36, 37, 38, 39, 40, 41, 42, 43, 44, 45, 46, 47, 48, 49, 50, 51, 52, 53, 54, 55, 56, 57, 58, 59, 60, 61, 62, 63, 64, 65, 66] (by decide +kernel) (by decide +kernel)
set_option maxRecDepth 20000 in
theorem gX0_isSafe_X0_search : GoodIn wsX0_isSafe (wsV RX0 50 RX0 yX0_search wsX0_search) := goodIn_app (goodIn_of _ (by decide +kernel)) ggX0_isSafe_X0_search
theorem dX0_isSafe_0 : decode cX0_isSafe 0 = .ok (.aload_n 0, 1) := by decide +kernel
theorem dX0_isSafe_1 : decode cX0_isSafe 1 = .ok (.getfield 34, 3) := by decide +kernel
theorem dX0_isSafe_4 : decode cX0_isSafe 4 = .ok (.aload_n 0, 1) := by decide +kernel
theorem dX0_isSafe_5 : decode cX0_isSafe 5 = .ok (.getfield 37, 3) := by decide +kernel
theorem dX0_isSafe_8 : decode cX0_isSafe 8 = .ok (.iand, 1) := by decide +kernel
theorem dX0_isSafe_9 : decode cX0_isSafe 9 = .ok (.invokestatic 46, 3) := by decide +kernel
theorem dX0_isSafe_12 : decode cX0_isSafe 12 = .ok (.istore_n 1, 1) := by decide +kernel
theorem dX0_isSafe_13 : decode cX0_isSafe 13 = .ok (.aload_n 0, 1) := by decide +kernel
theorem dX0_isSafe_14 : decode cX0_isSafe 14 = .ok (.iconst (-1), 1) := by decide +kernel
theorem dX0_isSafe_15 : decode cX0_isSafe 15 = .ok (.invokevirtual 50, 3) := by decide +kernel
theorem dX0_isSafe_18 : decode cX0_isSafe 18 = .ok (.istore_n 2, 1) := by decide +kernel
theorem dX0_isSafe_19 : decode cX0_isSafe 19 = .ok (.iconst 0, 1) := by decide +kernel
theorem dX0_isSafe_20 : decode cX0_isSafe 20 = .ok (.istore_n 3, 1) := by decide +kernel
theorem dX0_isSafe_21 : decode cX0_isSafe 21 = .ok (.iload_n 3, 1) := by decide +kernel
theorem dX0_isSafe_22 : decode cX0_isSafe 22 = .ok (.iload_n 1, 1) := by decide +kernel
theorem dX0_isSafe_23 : decode cX0_isSafe 23 = .ok (.if_icmp .ge 19, 3) := by decide +kernel
theorem dX0_isSafe_26 : decode cX0_isSafe 26 = .ok (.iload_n 2, 1) := by decide +kernel
theorem dX0_isSafe_27 : decode cX0_isSafe 27 = .ok (.ifCond .ne 15, 3) := by decide +kernel
theorem dX0_isSafe_30 : decode cX0_isSafe 30 = .ok (.aload_n 0, 1) := by decide +kernel
theorem dX0_isSafe_31 : decode cX0_isSafe 31 = .ok (.iload_n 3, 1) := by decide +kernel
theorem dX0_isSafe_32 : decode cX0_isSafe 32 = .ok (.invokevirtual 50, 3) := by decide +kernel
theorem dX0_isSafe_35 : decode cX0_isSafe 35 = .ok (.istore_n 2, 1) := by decide +kernel
theorem dX0_isSafe_36 : decode cX0_isSafe 36 = .ok (.iinc 3 1, 3) := by decide +kernel
theorem dX0_isSafe_39 : decode cX0_isSafe 39 = .ok (.goto (-18), 3) := by decide +kernel
theorem dX0_isSafe_42 : decode cX0_isSafe 42 = .ok (.iload_n 2, 1) := by decide +kernel
theorem dX0_isSafe_43 : decode cX0_isSafe 43 = .ok (.ifCond .ne 7, 3) := by decide +kernel
theorem dX0_isSafe_46 : decode cX0_isSafe 46 = .ok (.iconst 1, 1) := by decide +kernel
theorem dX0_isSafe_47 : decode cX0_isSafe 47 = .ok (.goto 4, 3) := by decide +kernel
theorem dX0_isSafe_50 : decode cX0_isSafe 50 = .ok (.iconst 0, 1) := by decide +kernel
theorem dX0_isSafe_51 : decode cX0_isSafe 51 = .ok (.ireturn, 1) := by decide +kernel
set_option maxRecDepth 20000 in
theorem ggX0_lowestFall_X6_greatestOf : GoodIn wsX0_lowestFall wsX6_greatestOf := goodIn_r _ [5] (by decide +kernel) (by decide +kernel)
set_option maxRecDepth 20000 in
theorem gX0_lowestFall_X6_greatestOf_n46 : GoodIn wsX0_lowestFall (wsX6_greatestOf) := ggX0_lowestFall_X6_greatestOf
set_option maxRecDepth 20000 in
theorem ggX0_lowestFall_X0_search : GoodIn wsX0_lowestFall wsX0_search := goodIn_r _ [10, 11, 1, 12, 13, 14, 15, 2, 16, 17, 18, 19, 20, 21, 22, 23, 24, 9, 25, 3, 4, 5, 26, 27, 28, 29, 30, 31, 32, 33, 34, 35, 36, 37, 38, 39, 40, 41, 42, 43, 44, 45, 46, 47, 48, 49, 50, 51, 52, 53, 54, 55, 56, 57, 58, 59, 60, 61, 62, 63, 64, 65, 66] (by decide +kernel) (by decide +kernel)
set_option maxRecDepth 20000 in
theorem gX0_lowestFall_X0_search : GoodIn wsX0_lowestFall (wsV RX0 50 RX0 yX0_search wsX0_search) := goodIn_app (goodIn_of _ (by decide +kernel)) ggX0_lowestFall_X0_search
theorem dX0_lowestFall_0 : decode cX0_lowestFall 0 = .ok (.aload_n 0, 1) := by decide +kernel
theorem dX0_lowestFall_1 : decode cX0_lowestFall 1 = .ok (.getfield 34, 3) := by decide +kernel
theorem dX0_lowestFall_4 : decode cX0_lowestFall 4 = .ok (.aload_n 0, 1) := by decide +kernel
theorem dX0_lowestFall_5 : decode cX0_lowestFall 5 = .ok (.getfield 37, 3) := by decide +kernel
theorem dX0_lowestFall_8 : decode cX0_lowestFall 8 = .ok (.iand, 1) := by decide +kernel
theorem dX0_lowestFall_9 : decode cX0_lowestFall 9 = .ok (.invokestatic 46, 3) := by decide +kernel
theorem dX0_lowestFall_12 : decode cX0_lowestFall 12 = .ok (.istore_n 1, 1) := by decide +kernel
theorem dX0_lowestFall_13 : decode cX0_lowestFall 13 = .ok (.iconst 0, 1) := by decide +kernel
theorem dX0_lowestFall_14 : decode cX0_lowestFall 14 = .ok (.istore_n 2, 1) := by decide +kernel
theorem dX0_lowestFall_15 : decode cX0_lowestFall 15 = .ok (.iload_n 2, 1) := by decide +kernel
theorem dX0_lowestFall_16 : decode cX0_lowestFall 16 = .ok (.iload_n 1, 1) := by decide +kernel
theorem dX0_lowestFall_17 : decode cX0_lowestFall 17 = .ok (.if_icmp .ge 19, 3) := by decide +kernel
theorem dX0_lowestFall_20 : decode cX0_lowestFall 20 = .ok (.aload_n 0, 1) := by decide +kernel
theorem dX0_lowestFall_21 : decode cX0_lowestFall 21 = .ok (.iload_n 2, 1) := by decide +kernel
theorem dX0_lowestFall_22 : decode cX0_lowestFall 22 = .ok (.invokevirtual 50, 3) := by decide +kernel
theorem dX0_lowestFall_25 : decode cX0_lowestFall 25 = .ok (.ifCond .eq 5, 3) := by decide +kernel
theorem dX0_lowestFall_28 : decode cX0_lowestFall 28 = .ok (.iload_n 2, 1) := by decide +kernel
theorem dX0_lowestFall_29 : decode cX0_lowestFall 29 = .ok (.ireturn, 1) := by decide +kernel
theorem dX0_lowestFall_30 : decode cX0_lowestFall 30 = .ok (.iinc 2 1, 3) := by decide +kernel
theorem dX0_lowestFall_33 : decode cX0_lowestFall 33 = .ok (.goto (-18), 3) := by decide +kernel
theorem dX0_lowestFall_36 : decode cX0_lowestFall 36 = .ok (.iconst (-1), 1) := by decide +kernel
theorem dX0_lowestFall_37 : decode cX0_lowestFall 37 = .ok (.ireturn, 1) := by decide +kernel
set_option maxRecDepth 20000 in
theorem ggX0_search_X4_triesAllowed : GoodIn wsX0_search wsX4_triesAllowed := goodIn_r _ [12, 13, 56, 57, 58, 59, 60, 61, 62] (by decide +kernel) (by decide +kernel)
set_option maxRecDepth 20000 in
theorem gX0_search_X4_triesAllowed : GoodIn wsX0_search (wsV RX0 57 RX4 yX4_triesAllowed wsX4_triesAllowed) := goodIn_app (goodIn_of _ (by decide +kernel)) ggX0_search_X4_triesAllowed
set_option maxRecDepth 20000 in
theorem ggX0_search_X0_pickOfOffer : GoodIn wsX0_search wsX0_pickOfOffer := goodIn_r _ [18, 6, 7, 3, 19, 20, 21, 44, 45, 46, 47, 48, 49, 50, 51, 52, 53, 54, 55] (by decide +kernel) (by decide +kernel)
set_option maxRecDepth 20000 in
theorem gX0_search_X0_pickOfOffer : GoodIn wsX0_search (wsV RX0 64 RX0 yX0_pickOfOffer wsX0_pickOfOffer) := goodIn_app (goodIn_of _ (by decide +kernel)) ggX0_search_X0_pickOfOffer
set_option maxRecDepth 20000 in
theorem ggX0_search_X0_weighPick : GoodIn wsX0_search wsX0_weighPick := goodIn_r _ [25, 3, 26, 27, 20, 28, 29, 30, 31, 17, 32, 5, 33, 1, 34, 35, 36, 44, 45, 46, 47, 48, 49, 50, 51, 52, 53, 54, 55] (by decide +kernel) (by decide +kernel)
set_option maxRecDepth 20000 in
theorem gX0_search_X0_weighPick : GoodIn wsX0_search (wsV RX0 67 RX0 yX0_weighPick wsX0_weighPick) := goodIn_app (goodIn_of _ (by decide +kernel)) ggX0_search_X0_weighPick
set_option maxRecDepth 20000 in
theorem ggX0_search_X6_holds : GoodIn wsX0_search wsX6_holds := goodIn_r _ [28] (by decide +kernel) (by decide +kernel)
set_option maxRecDepth 20000 in
theorem gX0_search_X6_holds_n71 : GoodIn wsX0_search (wsX6_holds) := ggX0_search_X6_holds
set_option maxRecDepth 20000 in
theorem ggX0_search_J6_bitCount_0f7a4 : GoodIn wsX0_search wsJ6_bitCount_0f7a4 := goodIn_r _ [40, 41, 42, 43] (by decide +kernel) (by decide +kernel)
set_option maxRecDepth 20000 in
theorem gX0_search_J6_bitCount_0f7a4 : GoodIn wsX0_search (va_wsS RX0 75 yJ6_bitCount_0f7a4 wsJ6_bitCount_0f7a4) := goodIn_app (goodIn_of _ (by decide +kernel)) ggX0_search_J6_bitCount_0f7a4
set_option maxRecDepth 20000 in
theorem ggX0_search_X6_greatestOf : GoodIn wsX0_search wsX6_greatestOf := goodIn_r _ [21] (by decide +kernel) (by decide +kernel)
set_option maxRecDepth 20000 in
theorem gX0_search_X6_greatestOf_n46 : GoodIn wsX0_search (wsX6_greatestOf) := ggX0_search_X6_greatestOf
theorem dX0_search_0 : decode cX0_search 0 = .ok (.aload_n 0, 1) := by decide +kernel
theorem dX0_search_1 : decode cX0_search 1 = .ok (.iconst (-1), 1) := by decide +kernel
theorem dX0_search_2 : decode cX0_search 2 = .ok (.putfield 15, 3) := by decide +kernel
theorem dX0_search_5 : decode cX0_search 5 = .ok (.aload_n 0, 1) := by decide +kernel
theorem dX0_search_6 : decode cX0_search 6 = .ok (.aload_n 0, 1) := by decide +kernel
theorem dX0_search_7 : decode cX0_search 7 = .ok (.getfield 34, 3) := by decide +kernel
theorem dX0_search_10 : decode cX0_search 10 = .ok (.putfield 54, 3) := by decide +kernel
theorem dX0_search_13 : decode cX0_search 13 = .ok (.iconst 0, 1) := by decide +kernel
theorem dX0_search_14 : decode cX0_search 14 = .ok (.istore_n 2, 1) := by decide +kernel
theorem dX0_search_15 : decode cX0_search 15 = .ok (.iload_n 2, 1) := by decide +kernel
theorem dX0_search_16 : decode cX0_search 16 = .ok (.aload_n 0, 1) := by decide +kernel
theorem dX0_search_17 : decode cX0_search 17 = .ok (.getfield 9, 3) := by decide +kernel
theorem dX0_search_20 : decode cX0_search 20 = .ok (.invokevirtual 57, 3) := by decide +kernel
theorem dX0_search_23 : decode cX0_search 23 = .ok (.if_icmp .gt 127, 3) := by decide +kernel
theorem dX0_search_26 : decode cX0_search 26 = .ok (.aload_n 0, 1) := by decide +kernel
theorem dX0_search_27 : decode cX0_search 27 = .ok (.iload_n 2, 1) := by decide +kernel
theorem dX0_search_28 : decode cX0_search 28 = .ok (.ifCond .le 16, 3) := by decide +kernel
theorem dX0_search_31 : decode cX0_search 31 = .ok (.aload_n 0, 1) := by decide +kernel
theorem dX0_search_32 : decode cX0_search 32 = .ok (.getfield 19, 3) := by decide +kernel
theorem dX0_search_35 : decode cX0_search 35 = .ok (.iconst 2, 1) := by decide +kernel
theorem dX0_search_36 : decode cX0_search 36 = .ok (.iand, 1) := by decide +kernel
theorem dX0_search_37 : decode cX0_search 37 = .ok (.ifCond .eq 7, 3) := by decide +kernel
theorem dX0_search_40 : decode cX0_search 40 = .ok (.iconst 1, 1) := by decide +kernel
theorem dX0_search_41 : decode cX0_search 41 = .ok (.goto 4, 3) := by decide +kernel
theorem dX0_search_44 : decode cX0_search 44 = .ok (.iconst 0, 1) := by decide +kernel
theorem dX0_search_45 : decode cX0_search 45 = .ok (.putfield 60, 3) := by decide +kernel
theorem dX0_search_48 : decode cX0_search 48 = .ok (.aload_n 0, 1) := by decide +kernel
theorem dX0_search_49 : decode cX0_search 49 = .ok (.iload_n 2, 1) := by decide +kernel
theorem dX0_search_50 : decode cX0_search 50 = .ok (.iconst (-1), 1) := by decide +kernel
theorem dX0_search_51 : decode cX0_search 51 = .ok (.aload_n 0, 1) := by decide +kernel
theorem dX0_search_52 : decode cX0_search 52 = .ok (.invokevirtual 64, 3) := by decide +kernel
theorem dX0_search_55 : decode cX0_search 55 = .ok (.iload_n 1, 1) := by decide +kernel
theorem dX0_search_56 : decode cX0_search 56 = .ok (.invokevirtual 67, 3) := by decide +kernel
theorem dX0_search_59 : decode cX0_search 59 = .ok (.iconst 0, 1) := by decide +kernel
theorem dX0_search_60 : decode cX0_search 60 = .ok (.istore_n 3, 1) := by decide +kernel
theorem dX0_search_61 : decode cX0_search 61 = .ok (.iload_n 3, 1) := by decide +kernel
theorem dX0_search_62 : decode cX0_search 62 = .ok (.iconst 4, 1) := by decide +kernel
theorem dX0_search_63 : decode cX0_search 63 = .ok (.if_icmp .ge 47, 3) := by decide +kernel
theorem dX0_search_66 : decode cX0_search 66 = .ok (.aload_n 0, 1) := by decide +kernel
theorem dX0_search_67 : decode cX0_search 67 = .ok (.getfield 37, 3) := by decide +kernel
theorem dX0_search_70 : decode cX0_search 70 = .ok (.iload_n 3, 1) := by decide +kernel
theorem dX0_search_71 : decode cX0_search 71 = .ok (.invokestatic 71, 3) := by decide +kernel
theorem dX0_search_74 : decode cX0_search 74 = .ok (.ifCond .eq 30, 3) := by decide +kernel
theorem dX0_search_77 : decode cX0_search 77 = .ok (.aload_n 0, 1) := by decide +kernel
theorem dX0_search_78 : decode cX0_search 78 = .ok (.getfield 60, 3) := by decide +kernel
theorem dX0_search_81 : decode cX0_search 81 = .ok (.ifCond .ne 13, 3) := by decide +kernel
theorem dX0_search_84 : decode cX0_search 84 = .ok (.aload_n 0, 1) := by decide +kernel
theorem dX0_search_85 : decode cX0_search 85 = .ok (.getfield 54, 3) := by decide +kernel
theorem dX0_search_88 : decode cX0_search 88 = .ok (.iconst 1, 1) := by decide +kernel
theorem dX0_search_89 : decode cX0_search 89 = .ok (.iload_n 3, 1) := by decide +kernel
theorem dX0_search_90 : decode cX0_search 90 = .ok (.ishl, 1) := by decide +kernel
theorem dX0_search_91 : decode cX0_search 91 = .ok (.if_icmp .eq 13, 3) := by decide +kernel
theorem dX0_search_94 : decode cX0_search 94 = .ok (.aload_n 0, 1) := by decide +kernel
theorem dX0_search_95 : decode cX0_search 95 = .ok (.iload_n 2, 1) := by decide +kernel
theorem dX0_search_96 : decode cX0_search 96 = .ok (.iconst 1, 1) := by decide +kernel
theorem dX0_search_97 : decode cX0_search 97 = .ok (.iload_n 3, 1) := by decide +kernel
theorem dX0_search_98 : decode cX0_search 98 = .ok (.ishl, 1) := by decide +kernel
theorem dX0_search_99 : decode cX0_search 99 = .ok (.iload_n 3, 1) := by decide +kernel
theorem dX0_search_100 : decode cX0_search 100 = .ok (.iload_n 1, 1) := by decide +kernel
theorem dX0_search_101 : decode cX0_search 101 = .ok (.invokevirtual 67, 3) := by decide +kernel
theorem dX0_search_104 : decode cX0_search 104 = .ok (.iinc 3 1, 3) := by decide +kernel
theorem dX0_search_107 : decode cX0_search 107 = .ok (.goto (-46), 3) := by decide +kernel
theorem dX0_search_110 : decode cX0_search 110 = .ok (.aload_n 0, 1) := by decide +kernel
theorem dX0_search_111 : decode cX0_search 111 = .ok (.getfield 54, 3) := by decide +kernel
theorem dX0_search_114 : decode cX0_search 114 = .ok (.invokestatic 75, 3) := by decide +kernel
theorem dX0_search_117 : decode cX0_search 117 = .ok (.iconst 2, 1) := by decide +kernel
theorem dX0_search_118 : decode cX0_search 118 = .ok (.if_icmp .ge 6, 3) := by decide +kernel
theorem dX0_search_121 : decode cX0_search 121 = .ok (.goto 29, 3) := by decide +kernel
theorem dX0_search_124 : decode cX0_search 124 = .ok (.aload_n 0, 1) := by decide +kernel
theorem dX0_search_125 : decode cX0_search 125 = .ok (.dup, 1) := by decide +kernel
theorem dX0_search_126 : decode cX0_search 126 = .ok (.getfield 54, 3) := by decide +kernel
theorem dX0_search_129 : decode cX0_search 129 = .ok (.iconst 1, 1) := by decide +kernel
theorem dX0_search_130 : decode cX0_search 130 = .ok (.aload_n 0, 1) := by decide +kernel
theorem dX0_search_131 : decode cX0_search 131 = .ok (.getfield 54, 3) := by decide +kernel
theorem dX0_search_134 : decode cX0_search 134 = .ok (.invokestatic 46, 3) := by decide +kernel
theorem dX0_search_137 : decode cX0_search 137 = .ok (.ishl, 1) := by decide +kernel
theorem dX0_search_138 : decode cX0_search 138 = .ok (.iconst (-1), 1) := by decide +kernel
theorem dX0_search_139 : decode cX0_search 139 = .ok (.ixor, 1) := by decide +kernel
theorem dX0_search_140 : decode cX0_search 140 = .ok (.iand, 1) := by decide +kernel
theorem dX0_search_141 : decode cX0_search 141 = .ok (.putfield 54, 3) := by decide +kernel
theorem dX0_search_144 : decode cX0_search 144 = .ok (.iinc 2 1, 3) := by decide +kernel
theorem dX0_search_147 : decode cX0_search 147 = .ok (.goto (-132), 3) := by decide +kernel
theorem dX0_search_150 : decode cX0_search 150 = .ok (.aload_n 0, 1) := by decide +kernel
theorem dX0_search_151 : decode cX0_search 151 = .ok (.getfield 15, 3) := by decide +kernel
theorem dX0_search_154 : decode cX0_search 154 = .ok (.iconst (-1), 1) := by decide +kernel
theorem dX0_search_155 : decode cX0_search 155 = .ok (.if_icmp .eq 7, 3) := by decide +kernel
theorem dX0_search_158 : decode cX0_search 158 = .ok (.iconst 1, 1) := by decide +kernel
theorem dX0_search_159 : decode cX0_search 159 = .ok (.goto 4, 3) := by decide +kernel
theorem dX0_search_162 : decode cX0_search 162 = .ok (.iconst 0, 1) := by decide +kernel
theorem dX0_search_163 : decode cX0_search 163 = .ok (.ireturn, 1) := by decide +kernel
set_option maxRecDepth 20000 in
theorem ggX0_pickOfOffer_X6_greatestOf : GoodIn wsX0_pickOfOffer wsX6_greatestOf := goodIn_r _ [6] (by decide +kernel) (by decide +kernel)
set_option maxRecDepth 20000 in
theorem gX0_pickOfOffer_X6_greatestOf_n46 : GoodIn wsX0_pickOfOffer (wsX6_greatestOf) := ggX0_pickOfOffer_X6_greatestOf
theorem dX0_pickOfOffer_0 : decode cX0_pickOfOffer 0 = .ok (.aload_n 0, 1) := by decide +kernel
theorem dX0_pickOfOffer_1 : decode cX0_pickOfOffer 1 = .ok (.getfield 60, 3) := by decide +kernel
theorem dX0_pickOfOffer_4 : decode cX0_pickOfOffer 4 = .ok (.ifCond .eq 22, 3) := by decide +kernel
theorem dX0_pickOfOffer_7 : decode cX0_pickOfOffer 7 = .ok (.aload_n 0, 1) := by decide +kernel
theorem dX0_pickOfOffer_8 : decode cX0_pickOfOffer 8 = .ok (.getfield 37, 3) := by decide +kernel
theorem dX0_pickOfOffer_11 : decode cX0_pickOfOffer 11 = .ok (.invokestatic 46, 3) := by decide +kernel
theorem dX0_pickOfOffer_14 : decode cX0_pickOfOffer 14 = .ok (.aload_n 0, 1) := by decide +kernel
theorem dX0_pickOfOffer_15 : decode cX0_pickOfOffer 15 = .ok (.getfield 54, 3) := by decide +kernel
theorem dX0_pickOfOffer_18 : decode cX0_pickOfOffer 18 = .ok (.invokestatic 46, 3) := by decide +kernel
theorem dX0_pickOfOffer_21 : decode cX0_pickOfOffer 21 = .ok (.if_icmp .le 5, 3) := by decide +kernel
theorem dX0_pickOfOffer_24 : decode cX0_pickOfOffer 24 = .ok (.iconst (-1), 1) := by decide +kernel
theorem dX0_pickOfOffer_25 : decode cX0_pickOfOffer 25 = .ok (.ireturn, 1) := by decide +kernel
theorem dX0_pickOfOffer_26 : decode cX0_pickOfOffer 26 = .ok (.aload_n 0, 1) := by decide +kernel
theorem dX0_pickOfOffer_27 : decode cX0_pickOfOffer 27 = .ok (.getfield 54, 3) := by decide +kernel
theorem dX0_pickOfOffer_30 : decode cX0_pickOfOffer 30 = .ok (.aload_n 0, 1) := by decide +kernel
theorem dX0_pickOfOffer_31 : decode cX0_pickOfOffer 31 = .ok (.getfield 37, 3) := by decide +kernel
theorem dX0_pickOfOffer_34 : decode cX0_pickOfOffer 34 = .ok (.iand, 1) := by decide +kernel
theorem dX0_pickOfOffer_35 : decode cX0_pickOfOffer 35 = .ok (.invokestatic 46, 3) := by decide +kernel
theorem dX0_pickOfOffer_38 : decode cX0_pickOfOffer 38 = .ok (.ireturn, 1) := by decide +kernel
set_option maxRecDepth 20000 in
theorem ggX0_weighPick_X6_holds : GoodIn wsX0_weighPick wsX6_holds := goodIn_r _ [5] (by decide +kernel) (by decide +kernel)
set_option maxRecDepth 20000 in
theorem gX0_weighPick_X6_holds_n71 : GoodIn wsX0_weighPick (wsX6_holds) := ggX0_weighPick_X6_holds
set_option maxRecDepth 20000 in
theorem ggX0_weighPick_X0_weighRow : GoodIn wsX0_weighPick wsX0_weighRow := goodIn_r _ [10, 11, 12, 13, 14, 15, 16, 17, 18, 19, 20, 21, 22, 23, 24, 25, 26, 27, 28] (by decide +kernel) (by decide +kernel)
set_option maxRecDepth 20000 in
theorem gX0_weighPick_X0_weighRow : GoodIn wsX0_weighPick (wsV RX0 80 RX0 yX0_weighRow wsX0_weighRow) := goodIn_app (goodIn_of _ (by decide +kernel)) ggX0_weighPick_X0_weighRow
theorem dX0_weighPick_0 : decode cX0_weighPick 0 = .ok (.iload_n 3, 1) := by decide +kernel
theorem dX0_weighPick_1 : decode cX0_weighPick 1 = .ok (.iconst (-1), 1) := by decide +kernel
theorem dX0_weighPick_2 : decode cX0_weighPick 2 = .ok (.if_icmp .ne 4, 3) := by decide +kernel
theorem dX0_weighPick_5 : decode cX0_weighPick 5 = .ok (.return_, 1) := by decide +kernel
theorem dX0_weighPick_6 : decode cX0_weighPick 6 = .ok (.iconst 0, 1) := by decide +kernel
theorem dX0_weighPick_7 : decode cX0_weighPick 7 = .ok (.istore 5, 2) := by decide +kernel
theorem dX0_weighPick_9 : decode cX0_weighPick 9 = .ok (.iload 5, 2) := by decide +kernel
theorem dX0_weighPick_11 : decode cX0_weighPick 11 = .ok (.iconst 4, 1) := by decide +kernel
theorem dX0_weighPick_12 : decode cX0_weighPick 12 = .ok (.if_icmp .ge 84, 3) := by decide +kernel
theorem dX0_weighPick_15 : decode cX0_weighPick 15 = .ok (.iload 4, 2) := by decide +kernel
theorem dX0_weighPick_17 : decode cX0_weighPick 17 = .ok (.iconst (-1), 1) := by decide +kernel
theorem dX0_weighPick_18 : decode cX0_weighPick 18 = .ok (.if_icmp .ne 17, 3) := by decide +kernel
theorem dX0_weighPick_21 : decode cX0_weighPick 21 = .ok (.iload 5, 2) := by decide +kernel
theorem dX0_weighPick_23 : decode cX0_weighPick 23 = .ok (.iload_n 3, 1) := by decide +kernel
theorem dX0_weighPick_24 : decode cX0_weighPick 24 = .ok (.if_icmp .eq 7, 3) := by decide +kernel
theorem dX0_weighPick_27 : decode cX0_weighPick 27 = .ok (.iconst 1, 1) := by decide +kernel
theorem dX0_weighPick_28 : decode cX0_weighPick 28 = .ok (.goto 25, 3) := by decide +kernel
theorem dX0_weighPick_31 : decode cX0_weighPick 31 = .ok (.iconst 0, 1) := by decide +kernel
theorem dX0_weighPick_32 : decode cX0_weighPick 32 = .ok (.goto 21, 3) := by decide +kernel
theorem dX0_weighPick_35 : decode cX0_weighPick 35 = .ok (.iload 5, 2) := by decide +kernel
theorem dX0_weighPick_37 : decode cX0_weighPick 37 = .ok (.iload_n 3, 1) := by decide +kernel
theorem dX0_weighPick_38 : decode cX0_weighPick 38 = .ok (.if_icmp .ne 14, 3) := by decide +kernel
theorem dX0_weighPick_41 : decode cX0_weighPick 41 = .ok (.iload 5, 2) := by decide +kernel
theorem dX0_weighPick_43 : decode cX0_weighPick 43 = .ok (.iload 4, 2) := by decide +kernel
theorem dX0_weighPick_45 : decode cX0_weighPick 45 = .ok (.if_icmp .ne 7, 3) := by decide +kernel
theorem dX0_weighPick_48 : decode cX0_weighPick 48 = .ok (.iconst 1, 1) := by decide +kernel
theorem dX0_weighPick_49 : decode cX0_weighPick 49 = .ok (.goto 4, 3) := by decide +kernel
theorem dX0_weighPick_52 : decode cX0_weighPick 52 = .ok (.iconst 0, 1) := by decide +kernel
theorem dX0_weighPick_53 : decode cX0_weighPick 53 = .ok (.istore 6, 2) := by decide +kernel
theorem dX0_weighPick_55 : decode cX0_weighPick 55 = .ok (.iload 6, 2) := by decide +kernel
theorem dX0_weighPick_57 : decode cX0_weighPick 57 = .ok (.ifCond .eq 33, 3) := by decide +kernel
theorem dX0_weighPick_60 : decode cX0_weighPick 60 = .ok (.aload_n 0, 1) := by decide +kernel
theorem dX0_weighPick_61 : decode cX0_weighPick 61 = .ok (.getfield 54, 3) := by decide +kernel
theorem dX0_weighPick_64 : decode cX0_weighPick 64 = .ok (.iload 5, 2) := by decide +kernel
theorem dX0_weighPick_66 : decode cX0_weighPick 66 = .ok (.invokestatic 71, 3) := by decide +kernel
theorem dX0_weighPick_69 : decode cX0_weighPick 69 = .ok (.ifCond .eq 21, 3) := by decide +kernel
theorem dX0_weighPick_72 : decode cX0_weighPick 72 = .ok (.iload 5, 2) := by decide +kernel
theorem dX0_weighPick_74 : decode cX0_weighPick 74 = .ok (.aload_n 0, 1) := by decide +kernel
theorem dX0_weighPick_75 : decode cX0_weighPick 75 = .ok (.getfield 43, 3) := by decide +kernel
theorem dX0_weighPick_78 : decode cX0_weighPick 78 = .ok (.if_icmp .lt 12, 3) := by decide +kernel
theorem dX0_weighPick_81 : decode cX0_weighPick 81 = .ok (.aload_n 0, 1) := by decide +kernel
theorem dX0_weighPick_82 : decode cX0_weighPick 82 = .ok (.iload_n 1, 1) := by decide +kernel
theorem dX0_weighPick_83 : decode cX0_weighPick 83 = .ok (.iload_n 2, 1) := by decide +kernel
theorem dX0_weighPick_84 : decode cX0_weighPick 84 = .ok (.iload_n 3, 1) := by decide +kernel
theorem dX0_weighPick_85 : decode cX0_weighPick 85 = .ok (.iload 5, 2) := by decide +kernel
theorem dX0_weighPick_87 : decode cX0_weighPick 87 = .ok (.invokevirtual 80, 3) := by decide +kernel
theorem dX0_weighPick_90 : decode cX0_weighPick 90 = .ok (.iinc 5 1, 3) := by decide +kernel
theorem dX0_weighPick_93 : decode cX0_weighPick 93 = .ok (.goto (-84), 3) := by decide +kernel
theorem dX0_weighPick_96 : decode cX0_weighPick 96 = .ok (.return_, 1) := by decide +kernel
theorem dX0_weighRow_0 : decode cX0_weighRow 0 = .ok (.iload_n 2, 1) := by decide +kernel
theorem dX0_weighRow_1 : decode cX0_weighRow 1 = .ok (.iconst (-1), 1) := by decide +kernel
theorem dX0_weighRow_2 : decode cX0_weighRow 2 = .ok (.if_icmp .ne 7, 3) := by decide +kernel
theorem dX0_weighRow_5 : decode cX0_weighRow 5 = .ok (.iconst 0, 1) := by decide +kernel
theorem dX0_weighRow_6 : decode cX0_weighRow 6 = .ok (.goto 4, 3) := by decide +kernel
theorem dX0_weighRow_9 : decode cX0_weighRow 9 = .ok (.iconst 1, 1) := by decide +kernel
theorem dX0_weighRow_10 : decode cX0_weighRow 10 = .ok (.iload 4, 2) := by decide +kernel
theorem dX0_weighRow_12 : decode cX0_weighRow 12 = .ok (.iload_n 3, 1) := by decide +kernel
theorem dX0_weighRow_13 : decode cX0_weighRow 13 = .ok (.if_icmp .ne 7, 3) := by decide +kernel
theorem dX0_weighRow_16 : decode cX0_weighRow 16 = .ok (.iconst 0, 1) := by decide +kernel
theorem dX0_weighRow_17 : decode cX0_weighRow 17 = .ok (.goto 4, 3) := by decide +kernel
theorem dX0_weighRow_20 : decode cX0_weighRow 20 = .ok (.iconst 1, 1) := by decide +kernel
theorem dX0_weighRow_21 : decode cX0_weighRow 21 = .ok (.iadd, 1) := by decide +kernel
theorem dX0_weighRow_22 : decode cX0_weighRow 22 = .ok (.istore 5, 2) := by decide +kernel
theorem dX0_weighRow_24 : decode cX0_weighRow 24 = .ok (.iload 5, 2) := by decide +kernel
theorem dX0_weighRow_26 : decode cX0_weighRow 26 = .ok (.ifCond .le 16, 3) := by decide +kernel
theorem dX0_weighRow_29 : decode cX0_weighRow 29 = .ok (.aload_n 0, 1) := by decide +kernel
theorem dX0_weighRow_30 : decode cX0_weighRow 30 = .ok (.getfield 19, 3) := by decide +kernel
theorem dX0_weighRow_33 : decode cX0_weighRow 33 = .ok (.iconst 1, 1) := by decide +kernel
theorem dX0_weighRow_34 : decode cX0_weighRow 34 = .ok (.iand, 1) := by decide +kernel
theorem dX0_weighRow_35 : decode cX0_weighRow 35 = .ok (.ifCond .eq 7, 3) := by decide +kernel
theorem dX0_weighRow_38 : decode cX0_weighRow 38 = .ok (.iconst 1, 1) := by decide +kernel
theorem dX0_weighRow_39 : decode cX0_weighRow 39 = .ok (.goto 4, 3) := by decide +kernel
theorem dX0_weighRow_42 : decode cX0_weighRow 42 = .ok (.iconst 0, 1) := by decide +kernel
theorem dX0_weighRow_43 : decode cX0_weighRow 43 = .ok (.istore 6, 2) := by decide +kernel
theorem dX0_weighRow_45 : decode cX0_weighRow 45 = .ok (.aload_n 0, 1) := by decide +kernel
theorem dX0_weighRow_46 : decode cX0_weighRow 46 = .ok (.getfield 28, 3) := by decide +kernel
theorem dX0_weighRow_49 : decode cX0_weighRow 49 = .ok (.iload_n 3, 1) := by decide +kernel
theorem dX0_weighRow_50 : decode cX0_weighRow 50 = .ok (.ishr, 1) := by decide +kernel
theorem dX0_weighRow_51 : decode cX0_weighRow 51 = .ok (.aload_n 0, 1) := by decide +kernel
theorem dX0_weighRow_52 : decode cX0_weighRow 52 = .ok (.getfield 28, 3) := by decide +kernel
theorem dX0_weighRow_55 : decode cX0_weighRow 55 = .ok (.iload 4, 2) := by decide +kernel
theorem dX0_weighRow_57 : decode cX0_weighRow 57 = .ok (.ishr, 1) := by decide +kernel
theorem dX0_weighRow_58 : decode cX0_weighRow 58 = .ok (.iand, 1) := by decide +kernel
theorem dX0_weighRow_59 : decode cX0_weighRow 59 = .ok (.iconst 1, 1) := by decide +kernel
theorem dX0_weighRow_60 : decode cX0_weighRow 60 = .ok (.iand, 1) := by decide +kernel
theorem dX0_weighRow_61 : decode cX0_weighRow 61 = .ok (.ifCond .eq 7, 3) := by decide +kernel
theorem dX0_weighRow_64 : decode cX0_weighRow 64 = .ok (.iconst 1, 1) := by decide +kernel
theorem dX0_weighRow_65 : decode cX0_weighRow 65 = .ok (.goto 4, 3) := by decide +kernel
theorem dX0_weighRow_68 : decode cX0_weighRow 68 = .ok (.iconst 0, 1) := by decide +kernel
theorem dX0_weighRow_69 : decode cX0_weighRow 69 = .ok (.istore 7, 2) := by decide +kernel
theorem dX0_weighRow_71 : decode cX0_weighRow 71 = .ok (.iload 6, 2) := by decide +kernel
theorem dX0_weighRow_73 : decode cX0_weighRow 73 = .ok (.ifCond .le 9, 3) := by decide +kernel
theorem dX0_weighRow_76 : decode cX0_weighRow 76 = .ok (.iload 7, 2) := by decide +kernel
theorem dX0_weighRow_78 : decode cX0_weighRow 78 = .ok (.ifCond .ne 4, 3) := by decide +kernel
theorem dX0_weighRow_81 : decode cX0_weighRow 81 = .ok (.return_, 1) := by decide +kernel
theorem dX0_weighRow_82 : decode cX0_weighRow 82 = .ok (.iload_n 1, 1) := by decide +kernel
theorem dX0_weighRow_83 : decode cX0_weighRow 83 = .ok (.iload 5, 2) := by decide +kernel
theorem dX0_weighRow_85 : decode cX0_weighRow 85 = .ok (.iadd, 1) := by decide +kernel
theorem dX0_weighRow_86 : decode cX0_weighRow 86 = .ok (.iload 6, 2) := by decide +kernel
theorem dX0_weighRow_88 : decode cX0_weighRow 88 = .ok (.iadd, 1) := by decide +kernel
theorem dX0_weighRow_89 : decode cX0_weighRow 89 = .ok (.istore 8, 2) := by decide +kernel
theorem dX0_weighRow_91 : decode cX0_weighRow 91 = .ok (.aload_n 0, 1) := by decide +kernel
theorem dX0_weighRow_92 : decode cX0_weighRow 92 = .ok (.getfield 15, 3) := by decide +kernel
theorem dX0_weighRow_95 : decode cX0_weighRow 95 = .ok (.iconst (-1), 1) := by decide +kernel
theorem dX0_weighRow_96 : decode cX0_weighRow 96 = .ok (.if_icmp .eq 12, 3) := by decide +kernel
theorem dX0_weighRow_99 : decode cX0_weighRow 99 = .ok (.iload 8, 2) := by decide +kernel
theorem dX0_weighRow_101 : decode cX0_weighRow 101 = .ok (.aload_n 0, 1) := by decide +kernel
theorem dX0_weighRow_102 : decode cX0_weighRow 102 = .ok (.getfield 15, 3) := by decide +kernel
theorem dX0_weighRow_105 : decode cX0_weighRow 105 = .ok (.if_icmp .ge 35, 3) := by decide +kernel
theorem dX0_weighRow_108 : decode cX0_weighRow 108 = .ok (.aload_n 0, 1) := by decide +kernel
theorem dX0_weighRow_109 : decode cX0_weighRow 109 = .ok (.iload 8, 2) := by decide +kernel
theorem dX0_weighRow_111 : decode cX0_weighRow 111 = .ok (.putfield 15, 3) := by decide +kernel
theorem dX0_weighRow_114 : decode cX0_weighRow 114 = .ok (.aload_n 0, 1) := by decide +kernel
theorem dX0_weighRow_115 : decode cX0_weighRow 115 = .ok (.iload_n 1, 1) := by decide +kernel
theorem dX0_weighRow_116 : decode cX0_weighRow 116 = .ok (.putfield 83, 3) := by decide +kernel
theorem dX0_weighRow_119 : decode cX0_weighRow 119 = .ok (.aload_n 0, 1) := by decide +kernel
theorem dX0_weighRow_120 : decode cX0_weighRow 120 = .ok (.iload_n 2, 1) := by decide +kernel
theorem dX0_weighRow_121 : decode cX0_weighRow 121 = .ok (.putfield 86, 3) := by decide +kernel
theorem dX0_weighRow_124 : decode cX0_weighRow 124 = .ok (.aload_n 0, 1) := by decide +kernel
theorem dX0_weighRow_125 : decode cX0_weighRow 125 = .ok (.iload 4, 2) := by decide +kernel
theorem dX0_weighRow_127 : decode cX0_weighRow 127 = .ok (.iload_n 3, 1) := by decide +kernel
theorem dX0_weighRow_128 : decode cX0_weighRow 128 = .ok (.if_icmp .ne 7, 3) := by decide +kernel
theorem dX0_weighRow_131 : decode cX0_weighRow 131 = .ok (.iconst (-1), 1) := by decide +kernel
theorem dX0_weighRow_132 : decode cX0_weighRow 132 = .ok (.goto 5, 3) := by decide +kernel
theorem dX0_weighRow_135 : decode cX0_weighRow 135 = .ok (.iload 4, 2) := by decide +kernel
theorem dX0_weighRow_137 : decode cX0_weighRow 137 = .ok (.putfield 89, 3) := by decide +kernel
theorem dX0_weighRow_140 : decode cX0_weighRow 140 = .ok (.return_, 1) := by decide +kernel
theorem dX0_actsFound_0 : decode cX0_actsFound 0 = .ok (.aload_n 0, 1) := by decide +kernel
theorem dX0_actsFound_1 : decode cX0_actsFound 1 = .ok (.getfield 15, 3) := by decide +kernel
theorem dX0_actsFound_4 : decode cX0_actsFound 4 = .ok (.ireturn, 1) := by decide +kernel
theorem dX0_kindOfAct_0 : decode cX0_kindOfAct 0 = .ok (.iload_n 1, 1) := by decide +kernel
theorem dX0_kindOfAct_1 : decode cX0_kindOfAct 1 = .ok (.aload_n 0, 1) := by decide +kernel
theorem dX0_kindOfAct_2 : decode cX0_kindOfAct 2 = .ok (.getfield 83, 3) := by decide +kernel
theorem dX0_kindOfAct_5 : decode cX0_kindOfAct 5 = .ok (.if_icmp .ge 5, 3) := by decide +kernel
theorem dX0_kindOfAct_8 : decode cX0_kindOfAct 8 = .ok (.iconst 0, 1) := by decide +kernel
theorem dX0_kindOfAct_9 : decode cX0_kindOfAct 9 = .ok (.ireturn, 1) := by decide +kernel
theorem dX0_kindOfAct_10 : decode cX0_kindOfAct 10 = .ok (.iload_n 1, 1) := by decide +kernel
theorem dX0_kindOfAct_11 : decode cX0_kindOfAct 11 = .ok (.aload_n 0, 1) := by decide +kernel
theorem dX0_kindOfAct_12 : decode cX0_kindOfAct 12 = .ok (.getfield 83, 3) := by decide +kernel
theorem dX0_kindOfAct_15 : decode cX0_kindOfAct 15 = .ok (.isub, 1) := by decide +kernel
theorem dX0_kindOfAct_16 : decode cX0_kindOfAct 16 = .ok (.istore_n 2, 1) := by decide +kernel
theorem dX0_kindOfAct_17 : decode cX0_kindOfAct 17 = .ok (.aload_n 0, 1) := by decide +kernel
theorem dX0_kindOfAct_18 : decode cX0_kindOfAct 18 = .ok (.getfield 86, 3) := by decide +kernel
theorem dX0_kindOfAct_21 : decode cX0_kindOfAct 21 = .ok (.iconst (-1), 1) := by decide +kernel
theorem dX0_kindOfAct_22 : decode cX0_kindOfAct 22 = .ok (.if_icmp .eq 12, 3) := by decide +kernel
theorem dX0_kindOfAct_25 : decode cX0_kindOfAct 25 = .ok (.iload_n 2, 1) := by decide +kernel
theorem dX0_kindOfAct_26 : decode cX0_kindOfAct 26 = .ok (.ifCond .ne 5, 3) := by decide +kernel
theorem dX0_kindOfAct_29 : decode cX0_kindOfAct 29 = .ok (.iconst 1, 1) := by decide +kernel
theorem dX0_kindOfAct_30 : decode cX0_kindOfAct 30 = .ok (.ireturn, 1) := by decide +kernel
theorem dX0_kindOfAct_31 : decode cX0_kindOfAct 31 = .ok (.iinc 2 (-1), 3) := by decide +kernel
theorem dX0_kindOfAct_34 : decode cX0_kindOfAct 34 = .ok (.iload_n 2, 1) := by decide +kernel
theorem dX0_kindOfAct_35 : decode cX0_kindOfAct 35 = .ok (.ifCond .ne 15, 3) := by decide +kernel
theorem dX0_kindOfAct_38 : decode cX0_kindOfAct 38 = .ok (.aload_n 0, 1) := by decide +kernel
theorem dX0_kindOfAct_39 : decode cX0_kindOfAct 39 = .ok (.getfield 89, 3) := by decide +kernel
theorem dX0_kindOfAct_42 : decode cX0_kindOfAct 42 = .ok (.iconst (-1), 1) := by decide +kernel
theorem dX0_kindOfAct_43 : decode cX0_kindOfAct 43 = .ok (.if_icmp .eq 7, 3) := by decide +kernel
theorem dX0_kindOfAct_46 : decode cX0_kindOfAct 46 = .ok (.iconst 2, 1) := by decide +kernel
theorem dX0_kindOfAct_47 : decode cX0_kindOfAct 47 = .ok (.goto 4, 3) := by decide +kernel
theorem dX0_kindOfAct_50 : decode cX0_kindOfAct 50 = .ok (.iconst 3, 1) := by decide +kernel
theorem dX0_kindOfAct_51 : decode cX0_kindOfAct 51 = .ok (.ireturn, 1) := by decide +kernel
set_option maxRecDepth 20000 in
theorem ggX0_detailOfAct_X0_kindOfAct : GoodIn wsX0_detailOfAct wsX0_kindOfAct := goodIn_r _ [7, 8, 1, 2, 9, 10, 11, 12, 13, 14, 15, 16, 17, 18, 19, 20] (by decide +kernel) (by decide +kernel)
set_option maxRecDepth 20000 in
theorem gX0_detailOfAct_X0_kindOfAct : GoodIn wsX0_detailOfAct (wsV RX0 92 RX0 yX0_kindOfAct wsX0_kindOfAct) := goodIn_app (goodIn_of _ (by decide +kernel)) ggX0_detailOfAct_X0_kindOfAct
theorem dX0_detailOfAct_0 : decode cX0_detailOfAct 0 = .ok (.aload_n 0, 1) := by decide +kernel
theorem dX0_detailOfAct_1 : decode cX0_detailOfAct 1 = .ok (.iload_n 1, 1) := by decide +kernel
theorem dX0_detailOfAct_2 : decode cX0_detailOfAct 2 = .ok (.invokevirtual 92, 3) := by decide +kernel
theorem dX0_detailOfAct_5 : decode cX0_detailOfAct 5 = .ok (.lookupswitch 37 #[(1, 27), (2, 32)], 27) := by decide +kernel
theorem dX0_detailOfAct_32 : decode cX0_detailOfAct 32 = .ok (.aload_n 0, 1) := by decide +kernel
theorem dX0_detailOfAct_33 : decode cX0_detailOfAct 33 = .ok (.getfield 86, 3) := by decide +kernel
theorem dX0_detailOfAct_36 : decode cX0_detailOfAct 36 = .ok (.ireturn, 1) := by decide +kernel
theorem dX0_detailOfAct_37 : decode cX0_detailOfAct 37 = .ok (.aload_n 0, 1) := by decide +kernel
theorem dX0_detailOfAct_38 : decode cX0_detailOfAct 38 = .ok (.getfield 89, 3) := by decide +kernel
theorem dX0_detailOfAct_41 : decode cX0_detailOfAct 41 = .ok (.ireturn, 1) := by decide +kernel
theorem dX0_detailOfAct_42 : decode cX0_detailOfAct 42 = .ok (.iconst 0, 1) := by decide +kernel
theorem dX0_detailOfAct_43 : decode cX0_detailOfAct 43 = .ok (.ireturn, 1) := by decide +kernel
theorem dX1_init_0 : decode cX1_init 0 = .ok (.aload_n 0, 1) := by decide +kernel
theorem dX1_init_1 : decode cX1_init 1 = .ok (.invokespecial 3, 3) := by decide +kernel
theorem dX1_init_4 : decode cX1_init 4 = .ok (.aload_n 0, 1) := by decide +kernel
theorem dX1_init_5 : decode cX1_init 5 = .ok (.aload_n 1, 1) := by decide +kernel
theorem dX1_init_6 : decode cX1_init 6 = .ok (.putfield 9, 3) := by decide +kernel
theorem dX1_init_9 : decode cX1_init 9 = .ok (.aload_n 0, 1) := by decide +kernel
theorem dX1_init_10 : decode cX1_init 10 = .ok (.aload_n 2, 1) := by decide +kernel
theorem dX1_init_11 : decode cX1_init 11 = .ok (.putfield 15, 3) := by decide +kernel
theorem dX1_init_14 : decode cX1_init 14 = .ok (.aload_n 0, 1) := by decide +kernel
theorem dX1_init_15 : decode cX1_init 15 = .ok (.iconst (-1), 1) := by decide +kernel
theorem dX1_init_16 : decode cX1_init 16 = .ok (.putfield 19, 3) := by decide +kernel
theorem dX1_init_19 : decode cX1_init 19 = .ok (.return_, 1) := by decide +kernel
theorem dX1_setFound_0 : decode cX1_setFound 0 = .ok (.aload_n 0, 1) := by decide +kernel
theorem dX1_setFound_1 : decode cX1_setFound 1 = .ok (.getfield 19, 3) := by decide +kernel
theorem dX1_setFound_4 : decode cX1_setFound 4 = .ok (.ireturn, 1) := by decide +kernel
theorem dX1_priceFound_0 : decode cX1_priceFound 0 = .ok (.aload_n 0, 1) := by decide +kernel
theorem dX1_priceFound_1 : decode cX1_priceFound 1 = .ok (.getfield 23, 3) := by decide +kernel
theorem dX1_priceFound_4 : decode cX1_priceFound 4 = .ok (.ireturn, 1) := by decide +kernel
set_option maxRecDepth 20000 in
theorem ggX1_searchFor_X4_mendsOn : GoodIn wsX1_searchFor wsX4_mendsOn := goodIn_r _ [8, 9, 130, 131, 132, 133, 134, 135, 136] (by decide +kernel) (by decide +kernel)
set_option maxRecDepth 20000 in
theorem gX1_searchFor_X4_mendsOn : GoodIn wsX1_searchFor (wsV RX1 26 RX4 yX4_mendsOn wsX4_mendsOn) := goodIn_app (goodIn_of _ (by decide +kernel)) ggX1_searchFor_X4_mendsOn
set_option maxRecDepth 20000 in
theorem ggX1_searchFor_X1_isCheaper : GoodIn wsX1_searchFor wsX1_isCheaper := goodIn_r _ [14, 1, 3, 15, 16, 17, 13, 18, 2, 19, 20, 21, 22, 23, 24, 7, 25, 26, 27, 28, 29, 30, 31, 32, 33, 126, 127, 128, 129, 130, 131, 132, 133, 134, 135, 136] (by decide +kernel) (by decide +kernel)
set_option maxRecDepth 20000 in
theorem gX1_searchFor_X1_isCheaper : GoodIn wsX1_searchFor (wsV RX1 32 RX1 yX1_isCheaper wsX1_isCheaper) := goodIn_app (goodIn_of _ (by decide +kernel)) ggX1_searchFor_X1_isCheaper
set_option maxRecDepth 20000 in
theorem ggX1_searchFor_X1_letsTalk : GoodIn wsX1_searchFor wsX1_letsTalk := goodIn_r _ [37, 2, 38, 39, 40, 7, 41, 42, 43, 44, 45, 46, 47, 48, 49, 50, 51, 52, 19, 20, 21, 53, 54, 55, 56, 57, 58, 59, 60, 61, 62, 63, 126, 127, 128, 129, 130, 131, 132, 133, 134, 135, 136] (by decide +kernel) (by decide +kernel)
set_option maxRecDepth 20000 in
theorem gX1_searchFor_X1_letsTalk : GoodIn wsX1_searchFor (wsV RX1 36 RX1 yX1_letsTalk wsX1_letsTalk) := goodIn_app (goodIn_of _ (by decide +kernel)) ggX1_searchFor_X1_letsTalk
set_option maxRecDepth 20000 in
theorem ggX1_searchFor_X1_makesSafe : GoodIn wsX1_searchFor wsX1_makesSafe := goodIn_r _ [67, 68, 69, 20, 70, 71, 19, 21, 72, 73, 74, 75, 76, 77, 78, 79, 80, 81, 82, 83, 84, 85, 7, 86, 87, 88, 58, 59, 60, 61, 89, 90, 91, 92, 93, 50, 51, 52, 94, 95, 96, 97, 62, 63, 98, 99, 100, 101, 102, 103, 104, 105, 106, 107, 108, 109, 110, 111, 112, 113, 114, 115, 116, 117, 118, 119, 120, 121, 122, 123, 124, 125, 28, 29, 30, 31, 32, 33, 126, 127, 128, 129, 137, 138, 139, 140, 141, 142, 143, 144, 145, 146, 147, 148, 130, 131, 132, 133, 134, 135, 136] (by decide +kernel) (by decide +kernel)
set_option maxRecDepth 20000 in
theorem gX1_searchFor_X1_makesSafe : GoodIn wsX1_searchFor (wsV RX1 39 RX1 yX1_makesSafe wsX1_makesSafe) := goodIn_app (goodIn_of _ (by decide +kernel)) ggX1_searchFor_X1_makesSafe
set_option maxRecDepth 20000 in
theorem ggX1_searchFor_X1_priceOfAll : GoodIn wsX1_searchFor wsX1_priceOfAll := goodIn_r _ [18, 2, 19, 20, 21, 22, 23, 24, 7, 25, 26, 126, 127, 128, 129, 130, 131, 132, 133, 134, 135, 136] (by decide +kernel) (by decide +kernel)
set_option maxRecDepth 20000 in
theorem gX1_searchFor_X1_priceOfAll : GoodIn wsX1_searchFor (wsV RX1 43 RX1 yX1_priceOfAll wsX1_priceOfAll) := goodIn_app (goodIn_of _ (by decide +kernel)) ggX1_searchFor_X1_priceOfAll
theorem dX1_searchFor_0 : decode cX1_searchFor 0 = .ok (.aload_n 0, 1) := by decide +kernel
theorem dX1_searchFor_1 : decode cX1_searchFor 1 = .ok (.iconst (-1), 1) := by decide +kernel
theorem dX1_searchFor_2 : decode cX1_searchFor 2 = .ok (.putfield 19, 3) := by decide +kernel
theorem dX1_searchFor_5 : decode cX1_searchFor 5 = .ok (.iconst 0, 1) := by decide +kernel
theorem dX1_searchFor_6 : decode cX1_searchFor 6 = .ok (.istore_n 2, 1) := by decide +kernel
theorem dX1_searchFor_7 : decode cX1_searchFor 7 = .ok (.iload_n 2, 1) := by decide +kernel
theorem dX1_searchFor_8 : decode cX1_searchFor 8 = .ok (.sipush 128, 3) := by decide +kernel
theorem dX1_searchFor_11 : decode cX1_searchFor 11 = .ok (.if_icmp .ge 73, 3) := by decide +kernel
theorem dX1_searchFor_14 : decode cX1_searchFor 14 = .ok (.iload_n 2, 1) := by decide +kernel
theorem dX1_searchFor_15 : decode cX1_searchFor 15 = .ok (.aload_n 0, 1) := by decide +kernel
theorem dX1_searchFor_16 : decode cX1_searchFor 16 = .ok (.getfield 9, 3) := by decide +kernel
theorem dX1_searchFor_19 : decode cX1_searchFor 19 = .ok (.invokevirtual 26, 3) := by decide +kernel
theorem dX1_searchFor_22 : decode cX1_searchFor 22 = .ok (.iand, 1) := by decide +kernel
theorem dX1_searchFor_23 : decode cX1_searchFor 23 = .ok (.ifCond .ne 55, 3) := by decide +kernel
theorem dX1_searchFor_26 : decode cX1_searchFor 26 = .ok (.aload_n 0, 1) := by decide +kernel
theorem dX1_searchFor_27 : decode cX1_searchFor 27 = .ok (.iload_n 2, 1) := by decide +kernel
theorem dX1_searchFor_28 : decode cX1_searchFor 28 = .ok (.invokevirtual 32, 3) := by decide +kernel
theorem dX1_searchFor_31 : decode cX1_searchFor 31 = .ok (.ifCond .ne 6, 3) := by decide +kernel
theorem dX1_searchFor_34 : decode cX1_searchFor 34 = .ok (.goto 44, 3) := by decide +kernel
theorem dX1_searchFor_37 : decode cX1_searchFor 37 = .ok (.iload_n 2, 1) := by decide +kernel
theorem dX1_searchFor_38 : decode cX1_searchFor 38 = .ok (.aload_n 0, 1) := by decide +kernel
theorem dX1_searchFor_39 : decode cX1_searchFor 39 = .ok (.getfield 9, 3) := by decide +kernel
theorem dX1_searchFor_42 : decode cX1_searchFor 42 = .ok (.invokevirtual 26, 3) := by decide +kernel
theorem dX1_searchFor_45 : decode cX1_searchFor 45 = .ok (.ior, 1) := by decide +kernel
theorem dX1_searchFor_46 : decode cX1_searchFor 46 = .ok (.istore_n 3, 1) := by decide +kernel
theorem dX1_searchFor_47 : decode cX1_searchFor 47 = .ok (.aload_n 0, 1) := by decide +kernel
theorem dX1_searchFor_48 : decode cX1_searchFor 48 = .ok (.iload_n 3, 1) := by decide +kernel
theorem dX1_searchFor_49 : decode cX1_searchFor 49 = .ok (.invokevirtual 36, 3) := by decide +kernel
theorem dX1_searchFor_52 : decode cX1_searchFor 52 = .ok (.ifCond .eq 26, 3) := by decide +kernel
theorem dX1_searchFor_55 : decode cX1_searchFor 55 = .ok (.aload_n 0, 1) := by decide +kernel
theorem dX1_searchFor_56 : decode cX1_searchFor 56 = .ok (.iload_n 3, 1) := by decide +kernel
theorem dX1_searchFor_57 : decode cX1_searchFor 57 = .ok (.iload_n 1, 1) := by decide +kernel
theorem dX1_searchFor_58 : decode cX1_searchFor 58 = .ok (.invokevirtual 39, 3) := by decide +kernel
theorem dX1_searchFor_61 : decode cX1_searchFor 61 = .ok (.ifCond .eq 17, 3) := by decide +kernel
theorem dX1_searchFor_64 : decode cX1_searchFor 64 = .ok (.aload_n 0, 1) := by decide +kernel
theorem dX1_searchFor_65 : decode cX1_searchFor 65 = .ok (.iload_n 2, 1) := by decide +kernel
theorem dX1_searchFor_66 : decode cX1_searchFor 66 = .ok (.putfield 19, 3) := by decide +kernel
theorem dX1_searchFor_69 : decode cX1_searchFor 69 = .ok (.aload_n 0, 1) := by decide +kernel
theorem dX1_searchFor_70 : decode cX1_searchFor 70 = .ok (.aload_n 0, 1) := by decide +kernel
theorem dX1_searchFor_71 : decode cX1_searchFor 71 = .ok (.iload_n 2, 1) := by decide +kernel
theorem dX1_searchFor_72 : decode cX1_searchFor 72 = .ok (.invokevirtual 43, 3) := by decide +kernel
theorem dX1_searchFor_75 : decode cX1_searchFor 75 = .ok (.putfield 23, 3) := by decide +kernel
theorem dX1_searchFor_78 : decode cX1_searchFor 78 = .ok (.iinc 2 1, 3) := by decide +kernel
theorem dX1_searchFor_81 : decode cX1_searchFor 81 = .ok (.goto (-74), 3) := by decide +kernel
theorem dX1_searchFor_84 : decode cX1_searchFor 84 = .ok (.aload_n 0, 1) := by decide +kernel
theorem dX1_searchFor_85 : decode cX1_searchFor 85 = .ok (.getfield 19, 3) := by decide +kernel
theorem dX1_searchFor_88 : decode cX1_searchFor 88 = .ok (.iconst (-1), 1) := by decide +kernel
theorem dX1_searchFor_89 : decode cX1_searchFor 89 = .ok (.if_icmp .eq 7, 3) := by decide +kernel
theorem dX1_searchFor_92 : decode cX1_searchFor 92 = .ok (.iconst 1, 1) := by decide +kernel
theorem dX1_searchFor_93 : decode cX1_searchFor 93 = .ok (.goto 4, 3) := by decide +kernel
theorem dX1_searchFor_96 : decode cX1_searchFor 96 = .ok (.iconst 0, 1) := by decide +kernel
theorem dX1_searchFor_97 : decode cX1_searchFor 97 = .ok (.ireturn, 1) := by decide +kernel
set_option maxRecDepth 20000 in
theorem ggX1_isCheaper_X1_priceOfAll : GoodIn wsX1_isCheaper wsX1_priceOfAll := goodIn_r _ [7, 8, 9, 10, 11, 12, 13, 14, 15, 16, 17, 25, 26, 27, 28, 29, 30, 31, 32, 33, 34, 35] (by decide +kernel) (by decide +kernel)
set_option maxRecDepth 20000 in
theorem gX1_isCheaper_X1_priceOfAll : GoodIn wsX1_isCheaper (wsV RX1 43 RX1 yX1_priceOfAll wsX1_priceOfAll) := goodIn_app (goodIn_of _ (by decide +kernel)) ggX1_isCheaper_X1_priceOfAll
set_option maxRecDepth 20000 in
theorem ggX1_isCheaper_J6_bitCount_0f7a4 : GoodIn wsX1_isCheaper wsJ6_bitCount_0f7a4 := goodIn_r _ [21, 22, 23, 24] (by decide +kernel) (by decide +kernel)
set_option maxRecDepth 20000 in
theorem gX1_isCheaper_J6_bitCount_0f7a4 : GoodIn wsX1_isCheaper (va_wsS RX1 47 yJ6_bitCount_0f7a4 wsJ6_bitCount_0f7a4) := goodIn_app (goodIn_of _ (by decide +kernel)) ggX1_isCheaper_J6_bitCount_0f7a4
theorem dX1_isCheaper_0 : decode cX1_isCheaper 0 = .ok (.aload_n 0, 1) := by decide +kernel
theorem dX1_isCheaper_1 : decode cX1_isCheaper 1 = .ok (.getfield 19, 3) := by decide +kernel
theorem dX1_isCheaper_4 : decode cX1_isCheaper 4 = .ok (.iconst (-1), 1) := by decide +kernel
theorem dX1_isCheaper_5 : decode cX1_isCheaper 5 = .ok (.if_icmp .ne 5, 3) := by decide +kernel
theorem dX1_isCheaper_8 : decode cX1_isCheaper 8 = .ok (.iconst 1, 1) := by decide +kernel
theorem dX1_isCheaper_9 : decode cX1_isCheaper 9 = .ok (.ireturn, 1) := by decide +kernel
theorem dX1_isCheaper_10 : decode cX1_isCheaper 10 = .ok (.aload_n 0, 1) := by decide +kernel
theorem dX1_isCheaper_11 : decode cX1_isCheaper 11 = .ok (.iload_n 1, 1) := by decide +kernel
theorem dX1_isCheaper_12 : decode cX1_isCheaper 12 = .ok (.invokevirtual 43, 3) := by decide +kernel
theorem dX1_isCheaper_15 : decode cX1_isCheaper 15 = .ok (.istore_n 2, 1) := by decide +kernel
theorem dX1_isCheaper_16 : decode cX1_isCheaper 16 = .ok (.iload_n 1, 1) := by decide +kernel
theorem dX1_isCheaper_17 : decode cX1_isCheaper 17 = .ok (.invokestatic 47, 3) := by decide +kernel
theorem dX1_isCheaper_20 : decode cX1_isCheaper 20 = .ok (.aload_n 0, 1) := by decide +kernel
theorem dX1_isCheaper_21 : decode cX1_isCheaper 21 = .ok (.getfield 19, 3) := by decide +kernel
theorem dX1_isCheaper_24 : decode cX1_isCheaper 24 = .ok (.invokestatic 47, 3) := by decide +kernel
theorem dX1_isCheaper_27 : decode cX1_isCheaper 27 = .ok (.if_icmp .ge 7, 3) := by decide +kernel
theorem dX1_isCheaper_30 : decode cX1_isCheaper 30 = .ok (.iconst 1, 1) := by decide +kernel
theorem dX1_isCheaper_31 : decode cX1_isCheaper 31 = .ok (.goto 4, 3) := by decide +kernel
theorem dX1_isCheaper_34 : decode cX1_isCheaper 34 = .ok (.iconst 0, 1) := by decide +kernel
theorem dX1_isCheaper_35 : decode cX1_isCheaper 35 = .ok (.istore_n 3, 1) := by decide +kernel
theorem dX1_isCheaper_36 : decode cX1_isCheaper 36 = .ok (.iload_n 2, 1) := by decide +kernel
theorem dX1_isCheaper_37 : decode cX1_isCheaper 37 = .ok (.aload_n 0, 1) := by decide +kernel
theorem dX1_isCheaper_38 : decode cX1_isCheaper 38 = .ok (.getfield 23, 3) := by decide +kernel
theorem dX1_isCheaper_41 : decode cX1_isCheaper 41 = .ok (.if_icmp .lt 15, 3) := by decide +kernel
theorem dX1_isCheaper_44 : decode cX1_isCheaper 44 = .ok (.iload_n 2, 1) := by decide +kernel
theorem dX1_isCheaper_45 : decode cX1_isCheaper 45 = .ok (.aload_n 0, 1) := by decide +kernel
theorem dX1_isCheaper_46 : decode cX1_isCheaper 46 = .ok (.getfield 23, 3) := by decide +kernel
theorem dX1_isCheaper_49 : decode cX1_isCheaper 49 = .ok (.if_icmp .ne 11, 3) := by decide +kernel
theorem dX1_isCheaper_52 : decode cX1_isCheaper 52 = .ok (.iload_n 3, 1) := by decide +kernel
theorem dX1_isCheaper_53 : decode cX1_isCheaper 53 = .ok (.ifCond .eq 7, 3) := by decide +kernel
theorem dX1_isCheaper_56 : decode cX1_isCheaper 56 = .ok (.iconst 1, 1) := by decide +kernel
theorem dX1_isCheaper_57 : decode cX1_isCheaper 57 = .ok (.goto 4, 3) := by decide +kernel
theorem dX1_isCheaper_60 : decode cX1_isCheaper 60 = .ok (.iconst 0, 1) := by decide +kernel
theorem dX1_isCheaper_61 : decode cX1_isCheaper 61 = .ok (.ireturn, 1) := by decide +kernel
set_option maxRecDepth 20000 in
theorem ggX1_priceOfAll_X6_holds : GoodIn wsX1_priceOfAll wsX6_holds := goodIn_r _ [4] (by decide +kernel) (by decide +kernel)
set_option maxRecDepth 20000 in
theorem gX1_priceOfAll_X6_holds_n52 : GoodIn wsX1_priceOfAll (wsX6_holds) := ggX1_priceOfAll_X6_holds
set_option maxRecDepth 20000 in
theorem ggX1_priceOfAll_X4_priceOf : GoodIn wsX1_priceOfAll wsX4_priceOf := goodIn_r _ [9, 10, 15, 16, 17, 18, 19, 20, 21] (by decide +kernel) (by decide +kernel)
set_option maxRecDepth 20000 in
theorem gX1_priceOfAll_X4_priceOf : GoodIn wsX1_priceOfAll (wsV RX1 55 RX4 yX4_priceOf wsX4_priceOf) := goodIn_app (goodIn_of _ (by decide +kernel)) ggX1_priceOfAll_X4_priceOf
theorem dX1_priceOfAll_0 : decode cX1_priceOfAll 0 = .ok (.iconst 0, 1) := by decide +kernel
theorem dX1_priceOfAll_1 : decode cX1_priceOfAll 1 = .ok (.istore_n 2, 1) := by decide +kernel
theorem dX1_priceOfAll_2 : decode cX1_priceOfAll 2 = .ok (.iconst 0, 1) := by decide +kernel
theorem dX1_priceOfAll_3 : decode cX1_priceOfAll 3 = .ok (.istore_n 3, 1) := by decide +kernel
theorem dX1_priceOfAll_4 : decode cX1_priceOfAll 4 = .ok (.iload_n 3, 1) := by decide +kernel
theorem dX1_priceOfAll_5 : decode cX1_priceOfAll 5 = .ok (.bipush 7, 2) := by decide +kernel
theorem dX1_priceOfAll_7 : decode cX1_priceOfAll 7 = .ok (.if_icmp .ge 28, 3) := by decide +kernel
theorem dX1_priceOfAll_10 : decode cX1_priceOfAll 10 = .ok (.iload_n 1, 1) := by decide +kernel
theorem dX1_priceOfAll_11 : decode cX1_priceOfAll 11 = .ok (.iload_n 3, 1) := by decide +kernel
theorem dX1_priceOfAll_12 : decode cX1_priceOfAll 12 = .ok (.invokestatic 52, 3) := by decide +kernel
theorem dX1_priceOfAll_15 : decode cX1_priceOfAll 15 = .ok (.ifCond .eq 14, 3) := by decide +kernel
theorem dX1_priceOfAll_18 : decode cX1_priceOfAll 18 = .ok (.iload_n 2, 1) := by decide +kernel
theorem dX1_priceOfAll_19 : decode cX1_priceOfAll 19 = .ok (.aload_n 0, 1) := by decide +kernel
theorem dX1_priceOfAll_20 : decode cX1_priceOfAll 20 = .ok (.getfield 9, 3) := by decide +kernel
theorem dX1_priceOfAll_23 : decode cX1_priceOfAll 23 = .ok (.iload_n 3, 1) := by decide +kernel
theorem dX1_priceOfAll_24 : decode cX1_priceOfAll 24 = .ok (.invokevirtual 55, 3) := by decide +kernel
theorem dX1_priceOfAll_27 : decode cX1_priceOfAll 27 = .ok (.iadd, 1) := by decide +kernel
theorem dX1_priceOfAll_28 : decode cX1_priceOfAll 28 = .ok (.istore_n 2, 1) := by decide +kernel
theorem dX1_priceOfAll_29 : decode cX1_priceOfAll 29 = .ok (.iinc 3 1, 3) := by decide +kernel
theorem dX1_priceOfAll_32 : decode cX1_priceOfAll 32 = .ok (.goto (-28), 3) := by decide +kernel
theorem dX1_priceOfAll_35 : decode cX1_priceOfAll 35 = .ok (.iload_n 2, 1) := by decide +kernel
theorem dX1_priceOfAll_36 : decode cX1_priceOfAll 36 = .ok (.ireturn, 1) := by decide +kernel
set_option maxRecDepth 20000 in
theorem ggX1_letsTalk_X4_mustTalk : GoodIn wsX1_letsTalk wsX4_mustTalk := goodIn_r _ [6, 7, 8, 9, 10, 11, 12, 13, 14, 15, 16, 5, 17, 18, 19, 20, 36, 37, 38, 39, 40, 41, 42] (by decide +kernel) (by decide +kernel)
set_option maxRecDepth 20000 in
theorem gX1_letsTalk_X4_mustTalk : GoodIn wsX1_letsTalk (wsV RX1 58 RX4 yX4_mustTalk wsX4_mustTalk) := goodIn_app (goodIn_of _ (by decide +kernel)) ggX1_letsTalk_X4_mustTalk
set_option maxRecDepth 20000 in
theorem ggX1_letsTalk_X4_bestUnder : GoodIn wsX1_letsTalk wsX4_bestUnder := goodIn_r _ [24, 25, 26, 27, 5, 28, 29, 30, 19, 31, 36, 37, 38, 39, 40, 41, 42] (by decide +kernel) (by decide +kernel)
set_option maxRecDepth 20000 in
theorem gX1_letsTalk_X4_bestUnder : GoodIn wsX1_letsTalk (wsV RX1 61 RX4 yX4_bestUnder wsX4_bestUnder) := goodIn_app (goodIn_of _ (by decide +kernel)) ggX1_letsTalk_X4_bestUnder
theorem dX1_letsTalk_0 : decode cX1_letsTalk 0 = .ok (.iconst 0, 1) := by decide +kernel
theorem dX1_letsTalk_1 : decode cX1_letsTalk 1 = .ok (.istore_n 2, 1) := by decide +kernel
theorem dX1_letsTalk_2 : decode cX1_letsTalk 2 = .ok (.iload_n 2, 1) := by decide +kernel
theorem dX1_letsTalk_3 : decode cX1_letsTalk 3 = .ok (.iconst 5, 1) := by decide +kernel
theorem dX1_letsTalk_4 : decode cX1_letsTalk 4 = .ok (.if_icmp .ge 52, 3) := by decide +kernel
theorem dX1_letsTalk_7 : decode cX1_letsTalk 7 = .ok (.iload_n 2, 1) := by decide +kernel
theorem dX1_letsTalk_8 : decode cX1_letsTalk 8 = .ok (.iconst 1, 1) := by decide +kernel
theorem dX1_letsTalk_9 : decode cX1_letsTalk 9 = .ok (.iadd, 1) := by decide +kernel
theorem dX1_letsTalk_10 : decode cX1_letsTalk 10 = .ok (.istore_n 3, 1) := by decide +kernel
theorem dX1_letsTalk_11 : decode cX1_letsTalk 11 = .ok (.iload_n 3, 1) := by decide +kernel
theorem dX1_letsTalk_12 : decode cX1_letsTalk 12 = .ok (.iconst 5, 1) := by decide +kernel
theorem dX1_letsTalk_13 : decode cX1_letsTalk 13 = .ok (.if_icmp .ge 37, 3) := by decide +kernel
theorem dX1_letsTalk_16 : decode cX1_letsTalk 16 = .ok (.aload_n 0, 1) := by decide +kernel
theorem dX1_letsTalk_17 : decode cX1_letsTalk 17 = .ok (.getfield 9, 3) := by decide +kernel
theorem dX1_letsTalk_20 : decode cX1_letsTalk 20 = .ok (.iload_n 2, 1) := by decide +kernel
theorem dX1_letsTalk_21 : decode cX1_letsTalk 21 = .ok (.iload_n 3, 1) := by decide +kernel
theorem dX1_letsTalk_22 : decode cX1_letsTalk 22 = .ok (.invokevirtual 58, 3) := by decide +kernel
theorem dX1_letsTalk_25 : decode cX1_letsTalk 25 = .ok (.ifCond .eq 19, 3) := by decide +kernel
theorem dX1_letsTalk_28 : decode cX1_letsTalk 28 = .ok (.aload_n 0, 1) := by decide +kernel
theorem dX1_letsTalk_29 : decode cX1_letsTalk 29 = .ok (.getfield 9, 3) := by decide +kernel
theorem dX1_letsTalk_32 : decode cX1_letsTalk 32 = .ok (.iload_n 1, 1) := by decide +kernel
theorem dX1_letsTalk_33 : decode cX1_letsTalk 33 = .ok (.iload_n 2, 1) := by decide +kernel
theorem dX1_letsTalk_34 : decode cX1_letsTalk 34 = .ok (.iload_n 3, 1) := by decide +kernel
theorem dX1_letsTalk_35 : decode cX1_letsTalk 35 = .ok (.invokevirtual 61, 3) := by decide +kernel
theorem dX1_letsTalk_38 : decode cX1_letsTalk 38 = .ok (.iconst (-1), 1) := by decide +kernel
theorem dX1_letsTalk_39 : decode cX1_letsTalk 39 = .ok (.if_icmp .ne 5, 3) := by decide +kernel
theorem dX1_letsTalk_42 : decode cX1_letsTalk 42 = .ok (.iconst 0, 1) := by decide +kernel
theorem dX1_letsTalk_43 : decode cX1_letsTalk 43 = .ok (.ireturn, 1) := by decide +kernel
theorem dX1_letsTalk_44 : decode cX1_letsTalk 44 = .ok (.iinc 3 1, 3) := by decide +kernel
theorem dX1_letsTalk_47 : decode cX1_letsTalk 47 = .ok (.goto (-36), 3) := by decide +kernel
theorem dX1_letsTalk_50 : decode cX1_letsTalk 50 = .ok (.iinc 2 1, 3) := by decide +kernel
theorem dX1_letsTalk_53 : decode cX1_letsTalk 53 = .ok (.goto (-51), 3) := by decide +kernel
theorem dX1_letsTalk_56 : decode cX1_letsTalk 56 = .ok (.iconst 1, 1) := by decide +kernel
theorem dX1_letsTalk_57 : decode cX1_letsTalk 57 = .ok (.ireturn, 1) := by decide +kernel
set_option maxRecDepth 20000 in
theorem ggX1_makesSafe_X6_isPairOfRoom : GoodIn wsX1_makesSafe wsX6_isPairOfRoom := goodIn_r _ [4, 5, 6, 3, 7] (by decide +kernel) (by decide +kernel)
set_option maxRecDepth 20000 in
theorem gX1_makesSafe_X6_isPairOfRoom_n65 : GoodIn wsX1_makesSafe (wsX6_isPairOfRoom) := ggX1_makesSafe_X6_isPairOfRoom
set_option maxRecDepth 20000 in
theorem ggX1_makesSafe_X0_seat : GoodIn wsX1_makesSafe wsX0_seat := goodIn_r _ [12, 13, 14, 15, 16, 17, 18, 19, 20, 21, 22, 23, 24, 25, 26, 27, 28, 29, 30, 31, 32, 33, 34, 35, 36, 37, 82, 83, 84, 85, 86, 87, 88, 89, 90, 91, 92, 93, 94, 95, 96, 97, 98, 99, 100] (by decide +kernel) (by decide +kernel)
set_option maxRecDepth 20000 in
theorem gX1_makesSafe_X0_seat : GoodIn wsX1_makesSafe (wsV RX1 68 RX0 yX0_seat wsX0_seat) := goodIn_app (goodIn_of _ (by decide +kernel)) ggX1_makesSafe_X0_seat
set_option maxRecDepth 20000 in
theorem ggX1_makesSafe_X0_isSafe : GoodIn wsX1_makesSafe wsX0_isSafe := goodIn_r _ [41, 16, 17, 42, 3, 43, 44, 45, 46, 11, 47, 48, 49, 14, 13, 50, 51, 52, 53, 22, 54, 55, 56, 57, 58, 59, 60, 61, 62, 63, 18, 6, 7, 64, 65, 66, 67, 15, 68, 69, 70, 71, 72, 73, 74, 75, 76, 77, 82, 83, 84, 85, 86, 87, 88, 89, 90, 91, 92, 93, 94, 95, 96, 97, 98, 99, 100] (by decide +kernel) (by decide +kernel)
set_option maxRecDepth 20000 in
theorem gX1_makesSafe_X0_isSafe : GoodIn wsX1_makesSafe (wsV RX1 74 RX0 yX0_isSafe wsX0_isSafe) := goodIn_app (goodIn_of _ (by decide +kernel)) ggX1_makesSafe_X0_isSafe
theorem dX1_makesSafe_0 : decode cX1_makesSafe 0 = .ok (.iconst 0, 1) := by decide +kernel
theorem dX1_makesSafe_1 : decode cX1_makesSafe 1 = .ok (.istore_n 3, 1) := by decide +kernel
theorem dX1_makesSafe_2 : decode cX1_makesSafe 2 = .ok (.iload_n 3, 1) := by decide +kernel
theorem dX1_makesSafe_3 : decode cX1_makesSafe 3 = .ok (.bipush 25, 2) := by decide +kernel
theorem dX1_makesSafe_5 : decode cX1_makesSafe 5 = .ok (.if_icmp .ge 46, 3) := by decide +kernel
theorem dX1_makesSafe_8 : decode cX1_makesSafe 8 = .ok (.iload_n 2, 1) := by decide +kernel
theorem dX1_makesSafe_9 : decode cX1_makesSafe 9 = .ok (.iload_n 3, 1) := by decide +kernel
theorem dX1_makesSafe_10 : decode cX1_makesSafe 10 = .ok (.invokestatic 65, 3) := by decide +kernel
theorem dX1_makesSafe_13 : decode cX1_makesSafe 13 = .ok (.ifCond .ne 6, 3) := by decide +kernel
theorem dX1_makesSafe_16 : decode cX1_makesSafe 16 = .ok (.goto 29, 3) := by decide +kernel
theorem dX1_makesSafe_19 : decode cX1_makesSafe 19 = .ok (.aload_n 0, 1) := by decide +kernel
theorem dX1_makesSafe_20 : decode cX1_makesSafe 20 = .ok (.getfield 15, 3) := by decide +kernel
theorem dX1_makesSafe_23 : decode cX1_makesSafe 23 = .ok (.iload_n 3, 1) := by decide +kernel
theorem dX1_makesSafe_24 : decode cX1_makesSafe 24 = .ok (.iconst 5, 1) := by decide +kernel
theorem dX1_makesSafe_25 : decode cX1_makesSafe 25 = .ok (.idiv, 1) := by decide +kernel
theorem dX1_makesSafe_26 : decode cX1_makesSafe 26 = .ok (.iload_n 3, 1) := by decide +kernel
theorem dX1_makesSafe_27 : decode cX1_makesSafe 27 = .ok (.iconst 5, 1) := by decide +kernel
theorem dX1_makesSafe_28 : decode cX1_makesSafe 28 = .ok (.irem, 1) := by decide +kernel
theorem dX1_makesSafe_29 : decode cX1_makesSafe 29 = .ok (.iload_n 1, 1) := by decide +kernel
theorem dX1_makesSafe_30 : decode cX1_makesSafe 30 = .ok (.invokevirtual 68, 3) := by decide +kernel
theorem dX1_makesSafe_33 : decode cX1_makesSafe 33 = .ok (.aload_n 0, 1) := by decide +kernel
theorem dX1_makesSafe_34 : decode cX1_makesSafe 34 = .ok (.getfield 15, 3) := by decide +kernel
theorem dX1_makesSafe_37 : decode cX1_makesSafe 37 = .ok (.invokevirtual 74, 3) := by decide +kernel
theorem dX1_makesSafe_40 : decode cX1_makesSafe 40 = .ok (.ifCond .ne 5, 3) := by decide +kernel
theorem dX1_makesSafe_43 : decode cX1_makesSafe 43 = .ok (.iconst 0, 1) := by decide +kernel
theorem dX1_makesSafe_44 : decode cX1_makesSafe 44 = .ok (.ireturn, 1) := by decide +kernel
theorem dX1_makesSafe_45 : decode cX1_makesSafe 45 = .ok (.iinc 3 1, 3) := by decide +kernel
theorem dX1_makesSafe_48 : decode cX1_makesSafe 48 = .ok (.goto (-46), 3) := by decide +kernel
theorem dX1_makesSafe_51 : decode cX1_makesSafe 51 = .ok (.iconst 1, 1) := by decide +kernel
theorem dX1_makesSafe_52 : decode cX1_makesSafe 52 = .ok (.ireturn, 1) := by decide +kernel
theorem dX2_init_0 : decode cX2_init 0 = .ok (.aload_n 0, 1) := by decide +kernel
theorem dX2_init_1 : decode cX2_init 1 = .ok (.invokespecial 3, 3) := by decide +kernel
theorem dX2_init_4 : decode cX2_init 4 = .ok (.aload_n 0, 1) := by decide +kernel
theorem dX2_init_5 : decode cX2_init 5 = .ok (.aload_n 1, 1) := by decide +kernel
theorem dX2_init_6 : decode cX2_init 6 = .ok (.putfield 9, 3) := by decide +kernel
theorem dX2_init_9 : decode cX2_init 9 = .ok (.aload_n 0, 1) := by decide +kernel
theorem dX2_init_10 : decode cX2_init 10 = .ok (.aload_n 2, 1) := by decide +kernel
theorem dX2_init_11 : decode cX2_init 11 = .ok (.putfield 15, 3) := by decide +kernel
theorem dX2_init_14 : decode cX2_init 14 = .ok (.aload_n 0, 1) := by decide +kernel
theorem dX2_init_15 : decode cX2_init 15 = .ok (.iconst (-1), 1) := by decide +kernel
theorem dX2_init_16 : decode cX2_init 16 = .ok (.putfield 19, 3) := by decide +kernel
theorem dX2_init_19 : decode cX2_init 19 = .ok (.return_, 1) := by decide +kernel
theorem dX2_faultFound_0 : decode cX2_faultFound 0 = .ok (.aload_n 0, 1) := by decide +kernel
theorem dX2_faultFound_1 : decode cX2_faultFound 1 = .ok (.getfield 19, 3) := by decide +kernel
theorem dX2_faultFound_4 : decode cX2_faultFound 4 = .ok (.ireturn, 1) := by decide +kernel
set_option maxRecDepth 20000 in
theorem ggX2_readText_X4_setAsAtFirst : GoodIn wsX2_readText wsX4_setAsAtFirst := goodIn_r _ [10, 11, 12, 13, 14, 15, 16, 17, 177, 178, 179, 180, 181, 182, 183] (by decide +kernel) (by decide +kernel)
set_option maxRecDepth 20000 in
theorem gX2_readText_X4_setAsAtFirst : GoodIn wsX2_readText (wsV RX2 23 RX4 yX4_setAsAtFirst wsX4_setAsAtFirst) := goodIn_app (goodIn_of _ (by decide +kernel)) ggX2_readText_X4_setAsAtFirst
set_option maxRecDepth 20000 in
theorem ggX2_readText_X2_advance : GoodIn wsX2_readText wsX2_advance := goodIn_r _ [22, 2, 5, 23, 4, 24, 25, 26, 27, 28, 29, 30, 31, 32, 33, 34, 35, 36, 37, 21, 38, 170, 171, 172, 173, 174, 175, 176, 184, 185] (by decide +kernel) (by decide +kernel)
set_option maxRecDepth 20000 in
theorem gX2_readText_X2_advance : GoodIn wsX2_readText (wsV RX2 31 RX2 yX2_advance wsX2_advance) := goodIn_app (goodIn_of _ (by decide +kernel)) ggX2_readText_X2_advance
set_option maxRecDepth 20000 in
theorem ggX2_readText_X2_readStatement : GoodIn wsX2_readText wsX2_readStatement := goodIn_r _ [42, 1, 43, 44, 45, 21, 46, 4, 2, 5, 23, 47, 48, 49, 50, 51, 52, 53, 54, 55, 56, 57, 58, 31, 32, 33, 28, 34, 30, 35, 59, 60, 61, 62, 63, 64, 65, 66, 67, 68, 69, 70, 71, 72, 73, 74, 75, 76, 77, 78, 79, 80, 81, 82, 83, 84, 85, 86, 87, 88, 89, 90, 91, 92, 93, 94, 95, 96, 97, 98, 99, 24, 18, 19, 20, 22, 25, 26, 27, 29, 36, 37, 38, 100, 101, 102, 103, 104, 105, 106, 107, 108, 109, 110, 9, 111, 11, 112, 113, 114, 115, 116, 117, 118, 119, 14, 120, 121, 122, 123, 124, 125, 126, 127, 15, 128, 129, 130, 131, 132, 133, 134, 135, 136, 137, 138, 139, 16, 140, 141, 142, 143, 144, 145, 146, 147, 148, 149, 150, 151, 12, 152, 153, 154, 155, 156, 157, 158, 159, 160, 161, 162, 163, 164, 165, 166, 17, 167, 168, 169, 170, 171, 172, 173, 174, 175, 176, 184, 185, 177, 178, 179, 180, 181, 182, 183] (by decide +kernel) (by decide +kernel)
set_option maxRecDepth 20000 in
theorem gX2_readText_X2_readStatement : GoodIn wsX2_readText (wsV RX2 37 RX2 yX2_readStatement wsX2_readStatement) := goodIn_app (goodIn_of _ (by decide +kernel)) ggX2_readText_X2_readStatement
theorem dX2_readText_0 : decode cX2_readText 0 = .ok (.aload_n 0, 1) := by decide +kernel
theorem dX2_readText_1 : decode cX2_readText 1 = .ok (.getfield 15, 3) := by decide +kernel
theorem dX2_readText_4 : decode cX2_readText 4 = .ok (.invokevirtual 23, 3) := by decide +kernel
theorem dX2_readText_7 : decode cX2_readText 7 = .ok (.aload_n 0, 1) := by decide +kernel
theorem dX2_readText_8 : decode cX2_readText 8 = .ok (.iconst 0, 1) := by decide +kernel
theorem dX2_readText_9 : decode cX2_readText 9 = .ok (.putfield 28, 3) := by decide +kernel
theorem dX2_readText_12 : decode cX2_readText 12 = .ok (.aload_n 0, 1) := by decide +kernel
theorem dX2_readText_13 : decode cX2_readText 13 = .ok (.iconst (-1), 1) := by decide +kernel
theorem dX2_readText_14 : decode cX2_readText 14 = .ok (.putfield 19, 3) := by decide +kernel
theorem dX2_readText_17 : decode cX2_readText 17 = .ok (.aload_n 0, 1) := by decide +kernel
theorem dX2_readText_18 : decode cX2_readText 18 = .ok (.invokevirtual 31, 3) := by decide +kernel
theorem dX2_readText_21 : decode cX2_readText 21 = .ok (.iconst 0, 1) := by decide +kernel
theorem dX2_readText_22 : decode cX2_readText 22 = .ok (.istore_n 1, 1) := by decide +kernel
theorem dX2_readText_23 : decode cX2_readText 23 = .ok (.iload_n 1, 1) := by decide +kernel
theorem dX2_readText_24 : decode cX2_readText 24 = .ok (.bipush 32, 2) := by decide +kernel
theorem dX2_readText_26 : decode cX2_readText 26 = .ok (.if_icmp .gt 34, 3) := by decide +kernel
theorem dX2_readText_29 : decode cX2_readText 29 = .ok (.aload_n 0, 1) := by decide +kernel
theorem dX2_readText_30 : decode cX2_readText 30 = .ok (.getfield 34, 3) := by decide +kernel
theorem dX2_readText_33 : decode cX2_readText 33 = .ok (.ifCond .ne 5, 3) := by decide +kernel
theorem dX2_readText_36 : decode cX2_readText 36 = .ok (.iload_n 1, 1) := by decide +kernel
theorem dX2_readText_37 : decode cX2_readText 37 = .ok (.ireturn, 1) := by decide +kernel
theorem dX2_readText_38 : decode cX2_readText 38 = .ok (.iload_n 1, 1) := by decide +kernel
theorem dX2_readText_39 : decode cX2_readText 39 = .ok (.bipush 32, 2) := by decide +kernel
theorem dX2_readText_41 : decode cX2_readText 41 = .ok (.if_icmp .eq 19, 3) := by decide +kernel
theorem dX2_readText_44 : decode cX2_readText 44 = .ok (.aload_n 0, 1) := by decide +kernel
theorem dX2_readText_45 : decode cX2_readText 45 = .ok (.invokevirtual 37, 3) := by decide +kernel
theorem dX2_readText_48 : decode cX2_readText 48 = .ok (.ifCond .ne 6, 3) := by decide +kernel
theorem dX2_readText_51 : decode cX2_readText 51 = .ok (.goto 9, 3) := by decide +kernel
theorem dX2_readText_54 : decode cX2_readText 54 = .ok (.iinc 1 1, 3) := by decide +kernel
theorem dX2_readText_57 : decode cX2_readText 57 = .ok (.goto (-34), 3) := by decide +kernel
theorem dX2_readText_60 : decode cX2_readText 60 = .ok (.aload_n 0, 1) := by decide +kernel
theorem dX2_readText_61 : decode cX2_readText 61 = .ok (.aload_n 0, 1) := by decide +kernel
theorem dX2_readText_62 : decode cX2_readText 62 = .ok (.getfield 41, 3) := by decide +kernel
theorem dX2_readText_65 : decode cX2_readText 65 = .ok (.putfield 19, 3) := by decide +kernel
theorem dX2_readText_68 : decode cX2_readText 68 = .ok (.iconst (-1), 1) := by decide +kernel
theorem dX2_readText_69 : decode cX2_readText 69 = .ok (.ireturn, 1) := by decide +kernel
set_option maxRecDepth 20000 in
theorem ggX2_readStatement_X2_isWord : GoodIn wsX2_readStatement wsX2_isWord := goodIn_r _ [6, 7, 8, 9, 10, 11, 12, 13, 14, 15, 16, 17, 18, 19, 20, 21, 22, 23, 24, 25, 26, 27, 28, 29, 30, 31, 32, 33, 34, 35, 36, 37, 38, 39, 40, 41, 42, 43, 44, 45, 46, 47, 48, 49, 50, 51, 52, 53, 54, 55, 56, 57, 58, 59, 60, 61, 62, 63, 64, 65, 66, 160, 161, 162, 163, 164, 165, 166, 167, 168] (by decide +kernel) (by decide +kernel)
set_option maxRecDepth 20000 in
theorem gX2_readStatement_X2_isWord : GoodIn wsX2_readStatement (wsV RX2 46 RX2 yX2_isWord wsX2_isWord) := goodIn_app (goodIn_of _ (by decide +kernel)) ggX2_readStatement_X2_isWord
set_option maxRecDepth 20000 in
theorem ggX2_readStatement_X2_readFriend : GoodIn wsX2_readStatement wsX2_readFriend := goodIn_r _ [70, 71, 1, 72, 73, 74, 5, 75, 8, 9, 10, 7, 76, 77, 78, 26, 79, 28, 23, 24, 25, 27, 29, 80, 81, 82, 83, 84, 85, 86, 2, 3, 4, 6, 11, 12, 13, 14, 15, 16, 17, 18, 19, 20, 21, 22, 30, 31, 32, 33, 34, 35, 36, 37, 38, 39, 40, 41, 42, 43, 44, 45, 46, 47, 48, 49, 50, 51, 52, 53, 54, 55, 56, 57, 58, 59, 60, 61, 62, 63, 64, 65, 66, 87, 88, 89, 90, 91, 92, 93, 94, 95, 96, 97, 98, 99, 100, 160, 161, 162, 163, 164, 165, 166, 167, 168, 169, 170, 171, 172, 173, 174, 175] (by decide +kernel) (by decide +kernel)
set_option maxRecDepth 20000 in
theorem gX2_readStatement_X2_readFriend : GoodIn wsX2_readStatement (wsV RX2 50 RX2 yX2_readFriend wsX2_readFriend) := goodIn_app (goodIn_of _ (by decide +kernel)) ggX2_readStatement_X2_readFriend
set_option maxRecDepth 20000 in
theorem ggX2_readStatement_X2_advance : GoodIn wsX2_readStatement wsX2_advance := goodIn_r _ [75, 8, 9, 10, 7, 71, 76, 77, 78, 26, 79, 28, 23, 24, 25, 27, 29, 80, 81, 5, 82, 160, 161, 162, 163, 164, 165, 166, 167, 168] (by decide +kernel) (by decide +kernel)
set_option maxRecDepth 20000 in
theorem gX2_readStatement_X2_advance : GoodIn wsX2_readStatement (wsV RX2 31 RX2 yX2_advance wsX2_advance) := goodIn_app (goodIn_of _ (by decide +kernel)) ggX2_readStatement_X2_advance
set_option maxRecDepth 20000 in
theorem ggX2_readStatement_X2_readWays : GoodIn wsX2_readStatement wsX2_readWays := goodIn_r _ [90, 71, 83, 84, 85, 5, 86, 7, 8, 9, 72, 73, 74, 75, 10, 76, 77, 78, 26, 79, 28, 23, 24, 25, 27, 29, 80, 81, 82, 160, 161, 162, 163, 164, 165, 166, 167, 168] (by decide +kernel) (by decide +kernel)
set_option maxRecDepth 20000 in
theorem gX2_readStatement_X2_readWays : GoodIn wsX2_readStatement (wsV RX2 55 RX2 yX2_readWays wsX2_readWays) := goodIn_app (goodIn_of _ (by decide +kernel)) ggX2_readStatement_X2_readWays
set_option maxRecDepth 20000 in
theorem ggX2_readStatement_X4_breakWays : GoodIn wsX2_readStatement wsX4_breakWays := goodIn_r _ [104, 105, 169, 170, 171, 172, 173, 174, 175] (by decide +kernel) (by decide +kernel)
set_option maxRecDepth 20000 in
theorem gX2_readStatement_X4_breakWays : GoodIn wsX2_readStatement (wsV RX2 59 RX4 yX4_breakWays wsX4_breakWays) := goodIn_app (goodIn_of _ (by decide +kernel)) ggX2_readStatement_X4_breakWays
set_option maxRecDepth 20000 in
theorem ggX2_readStatement_X2_endsStatement : GoodIn wsX2_readStatement wsX2_endsStatement := goodIn_r _ [100, 7, 72, 73, 74, 5, 75, 8, 9, 10, 71, 76, 77, 78, 26, 79, 28, 23, 24, 25, 27, 29, 80, 81, 82, 160, 161, 162, 163, 164, 165, 166, 167, 168] (by decide +kernel) (by decide +kernel)
set_option maxRecDepth 20000 in
theorem gX2_readStatement_X2_endsStatement : GoodIn wsX2_readStatement (wsV RX2 63 RX2 yX2_endsStatement wsX2_endsStatement) := goodIn_app (goodIn_of _ (by decide +kernel)) ggX2_readStatement_X2_endsStatement
set_option maxRecDepth 20000 in
theorem ggX2_readStatement_X2_readRetries : GoodIn wsX2_readStatement wsX2_readRetries := goodIn_r _ [109, 1, 71, 72, 73, 74, 5, 75, 8, 9, 10, 7, 76, 77, 78, 26, 79, 28, 23, 24, 25, 27, 29, 80, 81, 82, 83, 84, 85, 86, 110, 111, 112, 94, 113, 114, 97, 98, 99, 100, 160, 161, 162, 163, 164, 165, 166, 167, 168, 169, 170, 171, 172, 173, 174, 175] (by decide +kernel) (by decide +kernel)
set_option maxRecDepth 20000 in
theorem gX2_readStatement_X2_readRetries : GoodIn wsX2_readStatement (wsV RX2 68 RX2 yX2_readRetries wsX2_readRetries) := goodIn_app (goodIn_of _ (by decide +kernel)) ggX2_readStatement_X2_readRetries
set_option maxRecDepth 20000 in
theorem ggX2_readStatement_X2_readMend : GoodIn wsX2_readStatement wsX2_readMend := goodIn_r _ [118, 1, 72, 73, 74, 5, 75, 8, 9, 10, 7, 71, 76, 77, 78, 26, 79, 28, 23, 24, 25, 27, 29, 80, 81, 82, 119, 120, 121, 122, 2, 3, 4, 6, 11, 12, 13, 14, 15, 16, 17, 18, 19, 20, 21, 22, 30, 31, 32, 33, 34, 35, 36, 37, 38, 39, 40, 41, 42, 43, 44, 45, 46, 47, 48, 49, 50, 51, 52, 53, 54, 55, 56, 57, 58, 59, 60, 61, 62, 63, 64, 65, 66, 123, 124, 125, 94, 126, 127, 97, 98, 99, 100, 160, 161, 162, 163, 164, 165, 166, 167, 168, 169, 170, 171, 172, 173, 174, 175] (by decide +kernel) (by decide +kernel)
set_option maxRecDepth 20000 in
theorem gX2_readStatement_X2_readMend : GoodIn wsX2_readStatement (wsV RX2 73 RX2 yX2_readMend wsX2_readMend) := goodIn_app (goodIn_of _ (by decide +kernel)) ggX2_readStatement_X2_readMend
set_option maxRecDepth 20000 in
theorem ggX2_readStatement_X2_readForbid : GoodIn wsX2_readStatement wsX2_readForbid := goodIn_r _ [131, 1, 71, 72, 73, 74, 5, 75, 8, 9, 10, 7, 76, 77, 78, 26, 79, 28, 23, 24, 25, 27, 29, 80, 81, 82, 83, 84, 85, 86, 123, 124, 125, 94, 126, 127, 97, 98, 99, 100, 160, 161, 162, 163, 164, 165, 166, 167, 168, 169, 170, 171, 172, 173, 174, 175] (by decide +kernel) (by decide +kernel)
set_option maxRecDepth 20000 in
theorem gX2_readStatement_X2_readForbid : GoodIn wsX2_readStatement (wsV RX2 78 RX2 yX2_readForbid wsX2_readForbid) := goodIn_app (goodIn_of _ (by decide +kernel)) ggX2_readStatement_X2_readForbid
set_option maxRecDepth 20000 in
theorem ggX2_readStatement_X2_readCost : GoodIn wsX2_readStatement wsX2_readCost := goodIn_r _ [135, 71, 1, 72, 73, 74, 5, 75, 8, 9, 10, 7, 76, 77, 78, 26, 79, 28, 23, 24, 25, 27, 29, 80, 81, 82, 119, 120, 121, 122, 2, 3, 4, 6, 11, 12, 13, 14, 15, 16, 17, 18, 19, 20, 21, 22, 30, 31, 32, 33, 34, 35, 36, 37, 38, 39, 40, 41, 42, 43, 44, 45, 46, 47, 48, 49, 50, 51, 52, 53, 54, 55, 56, 57, 58, 59, 60, 61, 62, 63, 64, 65, 66, 83, 84, 85, 86, 136, 137, 138, 94, 139, 140, 97, 98, 99, 100, 160, 161, 162, 163, 164, 165, 166, 167, 168, 169, 170, 171, 172, 173, 174, 175] (by decide +kernel) (by decide +kernel)
set_option maxRecDepth 20000 in
theorem gX2_readStatement_X2_readCost : GoodIn wsX2_readStatement (wsV RX2 83 RX2 yX2_readCost wsX2_readCost) := goodIn_app (goodIn_of _ (by decide +kernel)) ggX2_readStatement_X2_readCost
set_option maxRecDepth 20000 in
theorem ggX2_readStatement_X2_readMust : GoodIn wsX2_readStatement wsX2_readMust := goodIn_r _ [144, 71, 1, 72, 73, 74, 5, 75, 8, 9, 10, 7, 76, 77, 78, 26, 79, 28, 23, 24, 25, 27, 29, 80, 81, 82, 83, 84, 85, 86, 145, 146, 147, 94, 148, 149, 150, 151, 152, 153, 154, 155, 156, 157, 158, 159, 97, 98, 99, 100, 160, 161, 162, 163, 164, 165, 166, 167, 168, 169, 170, 171, 172, 173, 174, 175] (by decide +kernel) (by decide +kernel)
set_option maxRecDepth 20000 in
theorem gX2_readStatement_X2_readMust : GoodIn wsX2_readStatement (wsV RX2 88 RX2 yX2_readMust wsX2_readMust) := goodIn_app (goodIn_of _ (by decide +kernel)) ggX2_readStatement_X2_readMust
theorem dX2_readStatement_0 : decode cX2_readStatement 0 = .ok (.aload_n 0, 1) := by decide +kernel
theorem dX2_readStatement_1 : decode cX2_readStatement 1 = .ok (.ldc 44, 2) := by decide +kernel
theorem dX2_readStatement_3 : decode cX2_readStatement 3 = .ok (.invokevirtual 46, 3) := by decide +kernel
theorem dX2_readStatement_6 : decode cX2_readStatement 6 = .ok (.ifCond .eq 8, 3) := by decide +kernel
theorem dX2_readStatement_9 : decode cX2_readStatement 9 = .ok (.aload_n 0, 1) := by decide +kernel
theorem dX2_readStatement_10 : decode cX2_readStatement 10 = .ok (.invokevirtual 50, 3) := by decide +kernel
theorem dX2_readStatement_13 : decode cX2_readStatement 13 = .ok (.ireturn, 1) := by decide +kernel
theorem dX2_readStatement_14 : decode cX2_readStatement 14 = .ok (.aload_n 0, 1) := by decide +kernel
theorem dX2_readStatement_15 : decode cX2_readStatement 15 = .ok (.ldc 53, 2) := by decide +kernel
theorem dX2_readStatement_17 : decode cX2_readStatement 17 = .ok (.invokevirtual 46, 3) := by decide +kernel
theorem dX2_readStatement_20 : decode cX2_readStatement 20 = .ok (.ifCond .eq 23, 3) := by decide +kernel
theorem dX2_readStatement_23 : decode cX2_readStatement 23 = .ok (.aload_n 0, 1) := by decide +kernel
theorem dX2_readStatement_24 : decode cX2_readStatement 24 = .ok (.invokevirtual 31, 3) := by decide +kernel
theorem dX2_readStatement_27 : decode cX2_readStatement 27 = .ok (.aload_n 0, 1) := by decide +kernel
theorem dX2_readStatement_28 : decode cX2_readStatement 28 = .ok (.getfield 15, 3) := by decide +kernel
theorem dX2_readStatement_31 : decode cX2_readStatement 31 = .ok (.aload_n 0, 1) := by decide +kernel
theorem dX2_readStatement_32 : decode cX2_readStatement 32 = .ok (.invokevirtual 55, 3) := by decide +kernel
theorem dX2_readStatement_35 : decode cX2_readStatement 35 = .ok (.invokevirtual 59, 3) := by decide +kernel
theorem dX2_readStatement_38 : decode cX2_readStatement 38 = .ok (.aload_n 0, 1) := by decide +kernel
theorem dX2_readStatement_39 : decode cX2_readStatement 39 = .ok (.invokevirtual 63, 3) := by decide +kernel
theorem dX2_readStatement_42 : decode cX2_readStatement 42 = .ok (.ireturn, 1) := by decide +kernel
theorem dX2_readStatement_43 : decode cX2_readStatement 43 = .ok (.aload_n 0, 1) := by decide +kernel
theorem dX2_readStatement_44 : decode cX2_readStatement 44 = .ok (.ldc 66, 2) := by decide +kernel
theorem dX2_readStatement_46 : decode cX2_readStatement 46 = .ok (.invokevirtual 46, 3) := by decide +kernel
theorem dX2_readStatement_49 : decode cX2_readStatement 49 = .ok (.ifCond .eq 8, 3) := by decide +kernel
theorem dX2_readStatement_52 : decode cX2_readStatement 52 = .ok (.aload_n 0, 1) := by decide +kernel
theorem dX2_readStatement_53 : decode cX2_readStatement 53 = .ok (.invokevirtual 68, 3) := by decide +kernel
theorem dX2_readStatement_56 : decode cX2_readStatement 56 = .ok (.ireturn, 1) := by decide +kernel
theorem dX2_readStatement_57 : decode cX2_readStatement 57 = .ok (.aload_n 0, 1) := by decide +kernel
theorem dX2_readStatement_58 : decode cX2_readStatement 58 = .ok (.ldc 71, 2) := by decide +kernel
theorem dX2_readStatement_60 : decode cX2_readStatement 60 = .ok (.invokevirtual 46, 3) := by decide +kernel
theorem dX2_readStatement_63 : decode cX2_readStatement 63 = .ok (.ifCond .eq 8, 3) := by decide +kernel
theorem dX2_readStatement_66 : decode cX2_readStatement 66 = .ok (.aload_n 0, 1) := by decide +kernel
theorem dX2_readStatement_67 : decode cX2_readStatement 67 = .ok (.invokevirtual 73, 3) := by decide +kernel
theorem dX2_readStatement_70 : decode cX2_readStatement 70 = .ok (.ireturn, 1) := by decide +kernel
theorem dX2_readStatement_71 : decode cX2_readStatement 71 = .ok (.aload_n 0, 1) := by decide +kernel
theorem dX2_readStatement_72 : decode cX2_readStatement 72 = .ok (.ldc 76, 2) := by decide +kernel
theorem dX2_readStatement_74 : decode cX2_readStatement 74 = .ok (.invokevirtual 46, 3) := by decide +kernel
theorem dX2_readStatement_77 : decode cX2_readStatement 77 = .ok (.ifCond .eq 8, 3) := by decide +kernel
theorem dX2_readStatement_80 : decode cX2_readStatement 80 = .ok (.aload_n 0, 1) := by decide +kernel
theorem dX2_readStatement_81 : decode cX2_readStatement 81 = .ok (.invokevirtual 78, 3) := by decide +kernel
theorem dX2_readStatement_84 : decode cX2_readStatement 84 = .ok (.ireturn, 1) := by decide +kernel
theorem dX2_readStatement_85 : decode cX2_readStatement 85 = .ok (.aload_n 0, 1) := by decide +kernel
theorem dX2_readStatement_86 : decode cX2_readStatement 86 = .ok (.ldc 81, 2) := by decide +kernel
theorem dX2_readStatement_88 : decode cX2_readStatement 88 = .ok (.invokevirtual 46, 3) := by decide +kernel
theorem dX2_readStatement_91 : decode cX2_readStatement 91 = .ok (.ifCond .eq 8, 3) := by decide +kernel
theorem dX2_readStatement_94 : decode cX2_readStatement 94 = .ok (.aload_n 0, 1) := by decide +kernel
theorem dX2_readStatement_95 : decode cX2_readStatement 95 = .ok (.invokevirtual 83, 3) := by decide +kernel
theorem dX2_readStatement_98 : decode cX2_readStatement 98 = .ok (.ireturn, 1) := by decide +kernel
theorem dX2_readStatement_99 : decode cX2_readStatement 99 = .ok (.aload_n 0, 1) := by decide +kernel
theorem dX2_readStatement_100 : decode cX2_readStatement 100 = .ok (.ldc 86, 2) := by decide +kernel
theorem dX2_readStatement_102 : decode cX2_readStatement 102 = .ok (.invokevirtual 46, 3) := by decide +kernel
theorem dX2_readStatement_105 : decode cX2_readStatement 105 = .ok (.ifCond .eq 14, 3) := by decide +kernel
theorem dX2_readStatement_108 : decode cX2_readStatement 108 = .ok (.aload_n 0, 1) := by decide +kernel
theorem dX2_readStatement_109 : decode cX2_readStatement 109 = .ok (.invokevirtual 88, 3) := by decide +kernel
theorem dX2_readStatement_112 : decode cX2_readStatement 112 = .ok (.ifCond .eq 7, 3) := by decide +kernel
theorem dX2_readStatement_115 : decode cX2_readStatement 115 = .ok (.iconst 1, 1) := by decide +kernel
theorem dX2_readStatement_116 : decode cX2_readStatement 116 = .ok (.goto 4, 3) := by decide +kernel
theorem dX2_readStatement_119 : decode cX2_readStatement 119 = .ok (.iconst 0, 1) := by decide +kernel
theorem dX2_readStatement_120 : decode cX2_readStatement 120 = .ok (.ireturn, 1) := by decide +kernel
set_option maxRecDepth 20000 in
theorem ggX2_readFriend_X2_advance : GoodIn wsX2_readFriend wsX2_advance := goodIn_r _ [7, 8, 9, 10, 11, 1, 12, 13, 14, 15, 16, 17, 18, 19, 20, 21, 22, 23, 24, 6, 25, 97, 98, 99, 100, 101, 102, 103, 104, 105] (by decide +kernel) (by decide +kernel)
set_option maxRecDepth 20000 in
theorem gX2_readFriend_X2_advance : GoodIn wsX2_readFriend (wsV RX2 31 RX2 yX2_advance wsX2_advance) := goodIn_app (goodIn_of _ (by decide +kernel)) ggX2_readFriend_X2_advance
set_option maxRecDepth 20000 in
theorem ggX2_readFriend_X2_isNumberUpTo : GoodIn wsX2_readFriend wsX2_isNumberUpTo := goodIn_r _ [29, 11, 8, 9, 1, 97, 98, 99, 100, 101, 102, 103] (by decide +kernel) (by decide +kernel)
set_option maxRecDepth 20000 in
theorem gX2_readFriend_X2_isNumberUpTo : GoodIn wsX2_readFriend (wsV RX2 91 RX2 yX2_isNumberUpTo wsX2_isNumberUpTo) := goodIn_app (goodIn_of _ (by decide +kernel)) ggX2_readFriend_X2_isNumberUpTo
set_option maxRecDepth 20000 in
theorem ggX2_readFriend_X2_isWord : GoodIn wsX2_readFriend wsX2_isWord := goodIn_r _ [33, 11, 8, 9, 10, 34, 35, 36, 37, 38, 39, 40, 41, 42, 43, 44, 45, 18, 19, 20, 15, 21, 17, 22, 46, 47, 48, 49, 50, 51, 52, 53, 54, 55, 56, 57, 58, 59, 60, 61, 62, 63, 64, 65, 66, 67, 68, 69, 70, 71, 72, 73, 74, 75, 76, 77, 78, 79, 80, 81, 82, 97, 98, 99, 100, 101, 102, 103, 104, 105] (by decide +kernel) (by decide +kernel)
set_option maxRecDepth 20000 in
theorem gX2_readFriend_X2_isWord : GoodIn wsX2_readFriend (wsV RX2 46 RX2 yX2_isWord wsX2_isWord) := goodIn_app (goodIn_of _ (by decide +kernel)) ggX2_readFriend_X2_isWord
set_option maxRecDepth 20000 in
theorem ggX2_readFriend_X2_readWays : GoodIn wsX2_readFriend wsX2_readWays := goodIn_r _ [86, 1, 26, 27, 28, 6, 29, 11, 8, 9, 3, 4, 5, 7, 10, 12, 13, 14, 15, 16, 17, 18, 19, 20, 21, 22, 23, 24, 25, 97, 98, 99, 100, 101, 102, 103, 104, 105] (by decide +kernel) (by decide +kernel)
set_option maxRecDepth 20000 in
theorem gX2_readFriend_X2_readWays : GoodIn wsX2_readFriend (wsV RX2 55 RX2 yX2_readWays wsX2_readWays) := goodIn_app (goodIn_of _ (by decide +kernel)) ggX2_readFriend_X2_readWays
set_option maxRecDepth 20000 in
theorem ggX2_readFriend_X4_giveWays : GoodIn wsX2_readFriend wsX4_giveWays := goodIn_r _ [91, 92, 106, 107, 108, 109, 110, 111, 112] (by decide +kernel) (by decide +kernel)
set_option maxRecDepth 20000 in
theorem gX2_readFriend_X4_giveWays : GoodIn wsX2_readFriend (wsV RX2 100 RX4 yX4_giveWays wsX4_giveWays) := goodIn_app (goodIn_of _ (by decide +kernel)) ggX2_readFriend_X4_giveWays
set_option maxRecDepth 20000 in
theorem ggX2_readFriend_X2_endsStatement : GoodIn wsX2_readFriend wsX2_endsStatement := goodIn_r _ [96, 11, 3, 4, 5, 6, 7, 8, 9, 10, 1, 12, 13, 14, 15, 16, 17, 18, 19, 20, 21, 22, 23, 24, 25, 97, 98, 99, 100, 101, 102, 103, 104, 105] (by decide +kernel) (by decide +kernel)
set_option maxRecDepth 20000 in
theorem gX2_readFriend_X2_endsStatement : GoodIn wsX2_readFriend (wsV RX2 63 RX2 yX2_endsStatement wsX2_endsStatement) := goodIn_app (goodIn_of _ (by decide +kernel)) ggX2_readFriend_X2_endsStatement
theorem dX2_readFriend_0 : decode cX2_readFriend 0 = .ok (.aload_n 0, 1) := by decide +kernel
theorem dX2_readFriend_1 : decode cX2_readFriend 1 = .ok (.invokevirtual 31, 3) := by decide +kernel
theorem dX2_readFriend_4 : decode cX2_readFriend 4 = .ok (.aload_n 0, 1) := by decide +kernel
theorem dX2_readFriend_5 : decode cX2_readFriend 5 = .ok (.iconst 4, 1) := by decide +kernel
theorem dX2_readFriend_6 : decode cX2_readFriend 6 = .ok (.invokevirtual 91, 3) := by decide +kernel
theorem dX2_readFriend_9 : decode cX2_readFriend 9 = .ok (.ifCond .ne 5, 3) := by decide +kernel
theorem dX2_readFriend_12 : decode cX2_readFriend 12 = .ok (.iconst 0, 1) := by decide +kernel
theorem dX2_readFriend_13 : decode cX2_readFriend 13 = .ok (.ireturn, 1) := by decide +kernel
theorem dX2_readFriend_14 : decode cX2_readFriend 14 = .ok (.aload_n 0, 1) := by decide +kernel
theorem dX2_readFriend_15 : decode cX2_readFriend 15 = .ok (.getfield 95, 3) := by decide +kernel
theorem dX2_readFriend_18 : decode cX2_readFriend 18 = .ok (.istore_n 1, 1) := by decide +kernel
theorem dX2_readFriend_19 : decode cX2_readFriend 19 = .ok (.aload_n 0, 1) := by decide +kernel
theorem dX2_readFriend_20 : decode cX2_readFriend 20 = .ok (.invokevirtual 31, 3) := by decide +kernel
theorem dX2_readFriend_23 : decode cX2_readFriend 23 = .ok (.aload_n 0, 1) := by decide +kernel
theorem dX2_readFriend_24 : decode cX2_readFriend 24 = .ok (.ldc 98, 2) := by decide +kernel
theorem dX2_readFriend_26 : decode cX2_readFriend 26 = .ok (.invokevirtual 46, 3) := by decide +kernel
theorem dX2_readFriend_29 : decode cX2_readFriend 29 = .ok (.ifCond .ne 5, 3) := by decide +kernel
theorem dX2_readFriend_32 : decode cX2_readFriend 32 = .ok (.iconst 0, 1) := by decide +kernel
theorem dX2_readFriend_33 : decode cX2_readFriend 33 = .ok (.ireturn, 1) := by decide +kernel
theorem dX2_readFriend_34 : decode cX2_readFriend 34 = .ok (.aload_n 0, 1) := by decide +kernel
theorem dX2_readFriend_35 : decode cX2_readFriend 35 = .ok (.invokevirtual 31, 3) := by decide +kernel
theorem dX2_readFriend_38 : decode cX2_readFriend 38 = .ok (.aload_n 0, 1) := by decide +kernel
theorem dX2_readFriend_39 : decode cX2_readFriend 39 = .ok (.getfield 15, 3) := by decide +kernel
theorem dX2_readFriend_42 : decode cX2_readFriend 42 = .ok (.iload_n 1, 1) := by decide +kernel
theorem dX2_readFriend_43 : decode cX2_readFriend 43 = .ok (.aload_n 0, 1) := by decide +kernel
theorem dX2_readFriend_44 : decode cX2_readFriend 44 = .ok (.invokevirtual 55, 3) := by decide +kernel
theorem dX2_readFriend_47 : decode cX2_readFriend 47 = .ok (.invokevirtual 100, 3) := by decide +kernel
theorem dX2_readFriend_50 : decode cX2_readFriend 50 = .ok (.aload_n 0, 1) := by decide +kernel
theorem dX2_readFriend_51 : decode cX2_readFriend 51 = .ok (.invokevirtual 63, 3) := by decide +kernel
theorem dX2_readFriend_54 : decode cX2_readFriend 54 = .ok (.ireturn, 1) := by decide +kernel
set_option maxRecDepth 20000 in
theorem ggX2_readWays_X2_isNumberUpTo : GoodIn wsX2_readWays wsX2_isNumberUpTo := goodIn_r _ [6, 7, 8, 9, 1, 29, 30, 31, 32, 33, 34, 35] (by decide +kernel) (by decide +kernel)
set_option maxRecDepth 20000 in
theorem gX2_readWays_X2_isNumberUpTo : GoodIn wsX2_readWays (wsV RX2 91 RX2 yX2_isNumberUpTo wsX2_isNumberUpTo) := goodIn_app (goodIn_of _ (by decide +kernel)) ggX2_readWays_X2_isNumberUpTo
set_option maxRecDepth 20000 in
theorem ggX2_readWays_X2_advance : GoodIn wsX2_readWays wsX2_advance := goodIn_r _ [13, 8, 9, 14, 7, 1, 15, 16, 17, 18, 19, 20, 21, 22, 23, 24, 25, 26, 27, 5, 28, 29, 30, 31, 32, 33, 34, 35, 36, 37] (by decide +kernel) (by decide +kernel)
set_option maxRecDepth 20000 in
theorem gX2_readWays_X2_advance : GoodIn wsX2_readWays (wsV RX2 31 RX2 yX2_advance wsX2_advance) := goodIn_app (goodIn_of _ (by decide +kernel)) ggX2_readWays_X2_advance
theorem dX2_readWays_0 : decode cX2_readWays 0 = .ok (.iconst 0, 1) := by decide +kernel
theorem dX2_readWays_1 : decode cX2_readWays 1 = .ok (.istore_n 1, 1) := by decide +kernel
theorem dX2_readWays_2 : decode cX2_readWays 2 = .ok (.iconst 0, 1) := by decide +kernel
theorem dX2_readWays_3 : decode cX2_readWays 3 = .ok (.istore_n 2, 1) := by decide +kernel
theorem dX2_readWays_4 : decode cX2_readWays 4 = .ok (.iload_n 2, 1) := by decide +kernel
theorem dX2_readWays_5 : decode cX2_readWays 5 = .ok (.sipush 600, 3) := by decide +kernel
theorem dX2_readWays_8 : decode cX2_readWays 8 = .ok (.if_icmp .ge 30, 3) := by decide +kernel
theorem dX2_readWays_11 : decode cX2_readWays 11 = .ok (.aload_n 0, 1) := by decide +kernel
theorem dX2_readWays_12 : decode cX2_readWays 12 = .ok (.iconst 3, 1) := by decide +kernel
theorem dX2_readWays_13 : decode cX2_readWays 13 = .ok (.invokevirtual 91, 3) := by decide +kernel
theorem dX2_readWays_16 : decode cX2_readWays 16 = .ok (.ifCond .eq 22, 3) := by decide +kernel
theorem dX2_readWays_19 : decode cX2_readWays 19 = .ok (.iload_n 1, 1) := by decide +kernel
theorem dX2_readWays_20 : decode cX2_readWays 20 = .ok (.iconst 1, 1) := by decide +kernel
theorem dX2_readWays_21 : decode cX2_readWays 21 = .ok (.aload_n 0, 1) := by decide +kernel
theorem dX2_readWays_22 : decode cX2_readWays 22 = .ok (.getfield 95, 3) := by decide +kernel
theorem dX2_readWays_25 : decode cX2_readWays 25 = .ok (.ishl, 1) := by decide +kernel
theorem dX2_readWays_26 : decode cX2_readWays 26 = .ok (.ior, 1) := by decide +kernel
theorem dX2_readWays_27 : decode cX2_readWays 27 = .ok (.istore_n 1, 1) := by decide +kernel
theorem dX2_readWays_28 : decode cX2_readWays 28 = .ok (.aload_n 0, 1) := by decide +kernel
theorem dX2_readWays_29 : decode cX2_readWays 29 = .ok (.invokevirtual 31, 3) := by decide +kernel
theorem dX2_readWays_32 : decode cX2_readWays 32 = .ok (.iinc 2 1, 3) := by decide +kernel
theorem dX2_readWays_35 : decode cX2_readWays 35 = .ok (.goto (-31), 3) := by decide +kernel
theorem dX2_readWays_38 : decode cX2_readWays 38 = .ok (.iload_n 1, 1) := by decide +kernel
theorem dX2_readWays_39 : decode cX2_readWays 39 = .ok (.ireturn, 1) := by decide +kernel
set_option maxRecDepth 20000 in
theorem ggX2_readRetries_X2_advance : GoodIn wsX2_readRetries wsX2_advance := goodIn_r _ [7, 8, 9, 10, 11, 2, 12, 13, 14, 15, 16, 17, 18, 19, 20, 21, 22, 23, 24, 6, 25, 40, 41, 42, 43, 44, 45, 46, 47, 48] (by decide +kernel) (by decide +kernel)
set_option maxRecDepth 20000 in
theorem gX2_readRetries_X2_advance : GoodIn wsX2_readRetries (wsV RX2 31 RX2 yX2_advance wsX2_advance) := goodIn_app (goodIn_of _ (by decide +kernel)) ggX2_readRetries_X2_advance
set_option maxRecDepth 20000 in
theorem ggX2_readRetries_X2_isNumberUpTo : GoodIn wsX2_readRetries wsX2_isNumberUpTo := goodIn_r _ [29, 11, 8, 9, 2, 40, 41, 42, 43, 44, 45, 46] (by decide +kernel) (by decide +kernel)
set_option maxRecDepth 20000 in
theorem gX2_readRetries_X2_isNumberUpTo : GoodIn wsX2_readRetries (wsV RX2 91 RX2 yX2_isNumberUpTo wsX2_isNumberUpTo) := goodIn_app (goodIn_of _ (by decide +kernel)) ggX2_readRetries_X2_isNumberUpTo
set_option maxRecDepth 20000 in
theorem ggX2_readRetries_X4_allowTries : GoodIn wsX2_readRetries wsX4_allowTries := goodIn_r _ [34, 35, 49, 50, 51, 52, 53, 54, 55] (by decide +kernel) (by decide +kernel)
set_option maxRecDepth 20000 in
theorem gX2_readRetries_X4_allowTries : GoodIn wsX2_readRetries (wsV RX2 104 RX4 yX4_allowTries wsX4_allowTries) := goodIn_app (goodIn_of _ (by decide +kernel)) ggX2_readRetries_X4_allowTries
set_option maxRecDepth 20000 in
theorem ggX2_readRetries_X2_endsStatement : GoodIn wsX2_readRetries wsX2_endsStatement := goodIn_r _ [39, 11, 3, 4, 5, 6, 7, 8, 9, 10, 2, 12, 13, 14, 15, 16, 17, 18, 19, 20, 21, 22, 23, 24, 25, 40, 41, 42, 43, 44, 45, 46, 47, 48] (by decide +kernel) (by decide +kernel)
set_option maxRecDepth 20000 in
theorem gX2_readRetries_X2_endsStatement : GoodIn wsX2_readRetries (wsV RX2 63 RX2 yX2_endsStatement wsX2_endsStatement) := goodIn_app (goodIn_of _ (by decide +kernel)) ggX2_readRetries_X2_endsStatement
theorem dX2_readRetries_0 : decode cX2_readRetries 0 = .ok (.aload_n 0, 1) := by decide +kernel
theorem dX2_readRetries_1 : decode cX2_readRetries 1 = .ok (.invokevirtual 31, 3) := by decide +kernel
theorem dX2_readRetries_4 : decode cX2_readRetries 4 = .ok (.aload_n 0, 1) := by decide +kernel
theorem dX2_readRetries_5 : decode cX2_readRetries 5 = .ok (.iconst 3, 1) := by decide +kernel
theorem dX2_readRetries_6 : decode cX2_readRetries 6 = .ok (.invokevirtual 91, 3) := by decide +kernel
theorem dX2_readRetries_9 : decode cX2_readRetries 9 = .ok (.ifCond .ne 5, 3) := by decide +kernel
theorem dX2_readRetries_12 : decode cX2_readRetries 12 = .ok (.iconst 0, 1) := by decide +kernel
theorem dX2_readRetries_13 : decode cX2_readRetries 13 = .ok (.ireturn, 1) := by decide +kernel
theorem dX2_readRetries_14 : decode cX2_readRetries 14 = .ok (.aload_n 0, 1) := by decide +kernel
theorem dX2_readRetries_15 : decode cX2_readRetries 15 = .ok (.getfield 15, 3) := by decide +kernel
theorem dX2_readRetries_18 : decode cX2_readRetries 18 = .ok (.aload_n 0, 1) := by decide +kernel
theorem dX2_readRetries_19 : decode cX2_readRetries 19 = .ok (.getfield 95, 3) := by decide +kernel
theorem dX2_readRetries_22 : decode cX2_readRetries 22 = .ok (.invokevirtual 104, 3) := by decide +kernel
theorem dX2_readRetries_25 : decode cX2_readRetries 25 = .ok (.aload_n 0, 1) := by decide +kernel
theorem dX2_readRetries_26 : decode cX2_readRetries 26 = .ok (.invokevirtual 31, 3) := by decide +kernel
theorem dX2_readRetries_29 : decode cX2_readRetries 29 = .ok (.aload_n 0, 1) := by decide +kernel
theorem dX2_readRetries_30 : decode cX2_readRetries 30 = .ok (.invokevirtual 63, 3) := by decide +kernel
theorem dX2_readRetries_33 : decode cX2_readRetries 33 = .ok (.ireturn, 1) := by decide +kernel
set_option maxRecDepth 20000 in
theorem ggX2_readMend_X2_advance : GoodIn wsX2_readMend wsX2_advance := goodIn_r _ [6, 7, 8, 9, 10, 11, 12, 13, 14, 15, 16, 17, 18, 19, 20, 21, 22, 23, 24, 5, 25, 93, 94, 95, 96, 97, 98, 99, 100, 101] (by decide +kernel) (by decide +kernel)
set_option maxRecDepth 20000 in
theorem gX2_readMend_X2_advance : GoodIn wsX2_readMend (wsV RX2 31 RX2 yX2_advance wsX2_advance) := goodIn_app (goodIn_of _ (by decide +kernel)) ggX2_readMend_X2_advance
set_option maxRecDepth 20000 in
theorem ggX2_readMend_X2_mendNamed : GoodIn wsX2_readMend wsX2_mendNamed := goodIn_r _ [29, 30, 31, 32, 5, 33, 10, 7, 8, 9, 34, 35, 36, 37, 38, 39, 40, 41, 42, 43, 44, 45, 18, 19, 20, 15, 21, 17, 22, 46, 47, 48, 49, 50, 51, 52, 53, 54, 55, 56, 57, 58, 59, 60, 61, 62, 63, 64, 65, 66, 67, 68, 69, 70, 71, 72, 73, 74, 75, 76, 77, 78, 79, 80, 81, 82, 93, 94, 95, 96, 97, 98, 99, 100, 101] (by decide +kernel) (by decide +kernel)
set_option maxRecDepth 20000 in
theorem gX2_readMend_X2_mendNamed : GoodIn wsX2_readMend (wsV RX2 107 RX2 yX2_mendNamed wsX2_mendNamed) := goodIn_app (goodIn_of _ (by decide +kernel)) ggX2_readMend_X2_mendNamed
set_option maxRecDepth 20000 in
theorem ggX2_readMend_X4_switchMend : GoodIn wsX2_readMend wsX4_switchMend := goodIn_r _ [87, 88, 102, 103, 104, 105, 106, 107, 108] (by decide +kernel) (by decide +kernel)
set_option maxRecDepth 20000 in
theorem gX2_readMend_X4_switchMend : GoodIn wsX2_readMend (wsV RX2 110 RX4 yX4_switchMend wsX4_switchMend) := goodIn_app (goodIn_of _ (by decide +kernel)) ggX2_readMend_X4_switchMend
set_option maxRecDepth 20000 in
theorem ggX2_readMend_X2_endsStatement : GoodIn wsX2_readMend wsX2_endsStatement := goodIn_r _ [92, 10, 2, 3, 4, 5, 6, 7, 8, 9, 11, 12, 13, 14, 15, 16, 17, 18, 19, 20, 21, 22, 23, 24, 25, 93, 94, 95, 96, 97, 98, 99, 100, 101] (by decide +kernel) (by decide +kernel)
set_option maxRecDepth 20000 in
theorem gX2_readMend_X2_endsStatement : GoodIn wsX2_readMend (wsV RX2 63 RX2 yX2_endsStatement wsX2_endsStatement) := goodIn_app (goodIn_of _ (by decide +kernel)) ggX2_readMend_X2_endsStatement
theorem dX2_readMend_0 : decode cX2_readMend 0 = .ok (.aload_n 0, 1) := by decide +kernel
theorem dX2_readMend_1 : decode cX2_readMend 1 = .ok (.invokevirtual 31, 3) := by decide +kernel
theorem dX2_readMend_4 : decode cX2_readMend 4 = .ok (.aload_n 0, 1) := by decide +kernel
theorem dX2_readMend_5 : decode cX2_readMend 5 = .ok (.invokevirtual 107, 3) := by decide +kernel
theorem dX2_readMend_8 : decode cX2_readMend 8 = .ok (.istore_n 1, 1) := by decide +kernel
theorem dX2_readMend_9 : decode cX2_readMend 9 = .ok (.iload_n 1, 1) := by decide +kernel
theorem dX2_readMend_10 : decode cX2_readMend 10 = .ok (.iconst (-1), 1) := by decide +kernel
theorem dX2_readMend_11 : decode cX2_readMend 11 = .ok (.if_icmp .ne 5, 3) := by decide +kernel
theorem dX2_readMend_14 : decode cX2_readMend 14 = .ok (.iconst 0, 1) := by decide +kernel
theorem dX2_readMend_15 : decode cX2_readMend 15 = .ok (.ireturn, 1) := by decide +kernel
theorem dX2_readMend_16 : decode cX2_readMend 16 = .ok (.aload_n 0, 1) := by decide +kernel
theorem dX2_readMend_17 : decode cX2_readMend 17 = .ok (.getfield 15, 3) := by decide +kernel
theorem dX2_readMend_20 : decode cX2_readMend 20 = .ok (.iload_n 1, 1) := by decide +kernel
theorem dX2_readMend_21 : decode cX2_readMend 21 = .ok (.iconst 1, 1) := by decide +kernel
theorem dX2_readMend_22 : decode cX2_readMend 22 = .ok (.invokevirtual 110, 3) := by decide +kernel
theorem dX2_readMend_25 : decode cX2_readMend 25 = .ok (.aload_n 0, 1) := by decide +kernel
theorem dX2_readMend_26 : decode cX2_readMend 26 = .ok (.invokevirtual 31, 3) := by decide +kernel
theorem dX2_readMend_29 : decode cX2_readMend 29 = .ok (.aload_n 0, 1) := by decide +kernel
theorem dX2_readMend_30 : decode cX2_readMend 30 = .ok (.invokevirtual 63, 3) := by decide +kernel
theorem dX2_readMend_33 : decode cX2_readMend 33 = .ok (.ireturn, 1) := by decide +kernel
set_option maxRecDepth 20000 in
theorem ggX2_readForbid_X2_advance : GoodIn wsX2_readForbid wsX2_advance := goodIn_r _ [7, 8, 9, 10, 11, 2, 12, 13, 14, 15, 16, 17, 18, 19, 20, 21, 22, 23, 24, 6, 25, 40, 41, 42, 43, 44, 45, 46, 47, 48] (by decide +kernel) (by decide +kernel)
set_option maxRecDepth 20000 in
theorem gX2_readForbid_X2_advance : GoodIn wsX2_readForbid (wsV RX2 31 RX2 yX2_advance wsX2_advance) := goodIn_app (goodIn_of _ (by decide +kernel)) ggX2_readForbid_X2_advance
set_option maxRecDepth 20000 in
theorem ggX2_readForbid_X2_isNumberUpTo : GoodIn wsX2_readForbid wsX2_isNumberUpTo := goodIn_r _ [29, 11, 8, 9, 2, 40, 41, 42, 43, 44, 45, 46] (by decide +kernel) (by decide +kernel)
set_option maxRecDepth 20000 in
theorem gX2_readForbid_X2_isNumberUpTo : GoodIn wsX2_readForbid (wsV RX2 91 RX2 yX2_isNumberUpTo wsX2_isNumberUpTo) := goodIn_app (goodIn_of _ (by decide +kernel)) ggX2_readForbid_X2_isNumberUpTo
set_option maxRecDepth 20000 in
theorem ggX2_readForbid_X4_switchMend : GoodIn wsX2_readForbid wsX4_switchMend := goodIn_r _ [34, 35, 49, 50, 51, 52, 53, 54, 55] (by decide +kernel) (by decide +kernel)
set_option maxRecDepth 20000 in
theorem gX2_readForbid_X4_switchMend : GoodIn wsX2_readForbid (wsV RX2 110 RX4 yX4_switchMend wsX4_switchMend) := goodIn_app (goodIn_of _ (by decide +kernel)) ggX2_readForbid_X4_switchMend
set_option maxRecDepth 20000 in
theorem ggX2_readForbid_X2_endsStatement : GoodIn wsX2_readForbid wsX2_endsStatement := goodIn_r _ [39, 11, 3, 4, 5, 6, 7, 8, 9, 10, 2, 12, 13, 14, 15, 16, 17, 18, 19, 20, 21, 22, 23, 24, 25, 40, 41, 42, 43, 44, 45, 46, 47, 48] (by decide +kernel) (by decide +kernel)
set_option maxRecDepth 20000 in
theorem gX2_readForbid_X2_endsStatement : GoodIn wsX2_readForbid (wsV RX2 63 RX2 yX2_endsStatement wsX2_endsStatement) := goodIn_app (goodIn_of _ (by decide +kernel)) ggX2_readForbid_X2_endsStatement
theorem dX2_readForbid_0 : decode cX2_readForbid 0 = .ok (.aload_n 0, 1) := by decide +kernel
theorem dX2_readForbid_1 : decode cX2_readForbid 1 = .ok (.invokevirtual 31, 3) := by decide +kernel
theorem dX2_readForbid_4 : decode cX2_readForbid 4 = .ok (.aload_n 0, 1) := by decide +kernel
theorem dX2_readForbid_5 : decode cX2_readForbid 5 = .ok (.iconst 3, 1) := by decide +kernel
theorem dX2_readForbid_6 : decode cX2_readForbid 6 = .ok (.invokevirtual 91, 3) := by decide +kernel
theorem dX2_readForbid_9 : decode cX2_readForbid 9 = .ok (.ifCond .ne 5, 3) := by decide +kernel
theorem dX2_readForbid_12 : decode cX2_readForbid 12 = .ok (.iconst 0, 1) := by decide +kernel
theorem dX2_readForbid_13 : decode cX2_readForbid 13 = .ok (.ireturn, 1) := by decide +kernel
theorem dX2_readForbid_14 : decode cX2_readForbid 14 = .ok (.aload_n 0, 1) := by decide +kernel
theorem dX2_readForbid_15 : decode cX2_readForbid 15 = .ok (.getfield 15, 3) := by decide +kernel
theorem dX2_readForbid_18 : decode cX2_readForbid 18 = .ok (.iconst 3, 1) := by decide +kernel
theorem dX2_readForbid_19 : decode cX2_readForbid 19 = .ok (.aload_n 0, 1) := by decide +kernel
theorem dX2_readForbid_20 : decode cX2_readForbid 20 = .ok (.getfield 95, 3) := by decide +kernel
theorem dX2_readForbid_23 : decode cX2_readForbid 23 = .ok (.iadd, 1) := by decide +kernel
theorem dX2_readForbid_24 : decode cX2_readForbid 24 = .ok (.iconst 1, 1) := by decide +kernel
theorem dX2_readForbid_25 : decode cX2_readForbid 25 = .ok (.invokevirtual 110, 3) := by decide +kernel
theorem dX2_readForbid_28 : decode cX2_readForbid 28 = .ok (.aload_n 0, 1) := by decide +kernel
theorem dX2_readForbid_29 : decode cX2_readForbid 29 = .ok (.invokevirtual 31, 3) := by decide +kernel
theorem dX2_readForbid_32 : decode cX2_readForbid 32 = .ok (.aload_n 0, 1) := by decide +kernel
theorem dX2_readForbid_33 : decode cX2_readForbid 33 = .ok (.invokevirtual 63, 3) := by decide +kernel
theorem dX2_readForbid_36 : decode cX2_readForbid 36 = .ok (.ireturn, 1) := by decide +kernel
set_option maxRecDepth 20000 in
theorem ggX2_readCost_X2_advance : GoodIn wsX2_readCost wsX2_advance := goodIn_r _ [7, 8, 9, 10, 11, 1, 12, 13, 14, 15, 16, 17, 18, 19, 20, 21, 22, 23, 24, 6, 25, 97, 98, 99, 100, 101, 102, 103, 104, 105] (by decide +kernel) (by decide +kernel)
set_option maxRecDepth 20000 in
theorem gX2_readCost_X2_advance : GoodIn wsX2_readCost (wsV RX2 31 RX2 yX2_advance wsX2_advance) := goodIn_app (goodIn_of _ (by decide +kernel)) ggX2_readCost_X2_advance
set_option maxRecDepth 20000 in
theorem ggX2_readCost_X2_mendNamed : GoodIn wsX2_readCost wsX2_mendNamed := goodIn_r _ [29, 30, 31, 32, 6, 33, 11, 8, 9, 10, 34, 35, 36, 37, 38, 39, 40, 41, 42, 43, 44, 45, 18, 19, 20, 15, 21, 17, 22, 46, 47, 48, 49, 50, 51, 52, 53, 54, 55, 56, 57, 58, 59, 60, 61, 62, 63, 64, 65, 66, 67, 68, 69, 70, 71, 72, 73, 74, 75, 76, 77, 78, 79, 80, 81, 82, 97, 98, 99, 100, 101, 102, 103, 104, 105] (by decide +kernel) (by decide +kernel)
