set_option maxRecDepth 20000 in
theorem gX2_readCost_X2_mendNamed : GoodIn wsX2_readCost (wsV RX2 107 RX2 yX2_mendNamed wsX2_mendNamed) := goodIn_app (goodIn_of _ (by decide +kernel)) ggX2_readCost_X2_mendNamed
set_option maxRecDepth 20000 in
theorem ggX2_readCost_X2_isWord : GoodIn wsX2_readCost wsX2_isWord := goodIn_r _ [33, 11, 8, 9, 10, 34, 35, 36, 37, 38, 39, 40, 41, 42, 43, 44, 45, 18, 19, 20, 15, 21, 17, 22, 46, 47, 48, 49, 50, 51, 52, 53, 54, 55, 56, 57, 58, 59, 60, 61, 62, 63, 64, 65, 66, 67, 68, 69, 70, 71, 72, 73, 74, 75, 76, 77, 78, 79, 80, 81, 82, 97, 98, 99, 100, 101, 102, 103, 104, 105] (by decide +kernel) (by decide +kernel)
set_option maxRecDepth 20000 in
theorem gX2_readCost_X2_isWord : GoodIn wsX2_readCost (wsV RX2 46 RX2 yX2_isWord wsX2_isWord) := goodIn_app (goodIn_of _ (by decide +kernel)) ggX2_readCost_X2_isWord
set_option maxRecDepth 20000 in
theorem ggX2_readCost_X2_isNumberUpTo : GoodIn wsX2_readCost wsX2_isNumberUpTo := goodIn_r _ [86, 11, 8, 9, 1, 97, 98, 99, 100, 101, 102, 103] (by decide +kernel) (by decide +kernel)
set_option maxRecDepth 20000 in
theorem gX2_readCost_X2_isNumberUpTo : GoodIn wsX2_readCost (wsV RX2 91 RX2 yX2_isNumberUpTo wsX2_isNumberUpTo) := goodIn_app (goodIn_of _ (by decide +kernel)) ggX2_readCost_X2_isNumberUpTo
set_option maxRecDepth 20000 in
theorem ggX2_readCost_X4_priceMend : GoodIn wsX2_readCost wsX4_priceMend := goodIn_r _ [91, 92, 106, 107, 108, 109, 110, 111, 112] (by decide +kernel) (by decide +kernel)
set_option maxRecDepth 20000 in
theorem gX2_readCost_X4_priceMend : GoodIn wsX2_readCost (wsV RX2 114 RX4 yX4_priceMend wsX4_priceMend) := goodIn_app (goodIn_of _ (by decide +kernel)) ggX2_readCost_X4_priceMend
set_option maxRecDepth 20000 in
theorem ggX2_readCost_X2_endsStatement : GoodIn wsX2_readCost wsX2_endsStatement := goodIn_r _ [96, 11, 3, 4, 5, 6, 7, 8, 9, 10, 1, 12, 13, 14, 15, 16, 17, 18, 19, 20, 21, 22, 23, 24, 25, 97, 98, 99, 100, 101, 102, 103, 104, 105] (by decide +kernel) (by decide +kernel)
set_option maxRecDepth 20000 in
theorem gX2_readCost_X2_endsStatement : GoodIn wsX2_readCost (wsV RX2 63 RX2 yX2_endsStatement wsX2_endsStatement) := goodIn_app (goodIn_of _ (by decide +kernel)) ggX2_readCost_X2_endsStatement
theorem dX2_readCost_0 : decode cX2_readCost 0 = .ok (.aload_n 0, 1) := by decide +kernel
theorem dX2_readCost_1 : decode cX2_readCost 1 = .ok (.invokevirtual 31, 3) := by decide +kernel
theorem dX2_readCost_4 : decode cX2_readCost 4 = .ok (.aload_n 0, 1) := by decide +kernel
theorem dX2_readCost_5 : decode cX2_readCost 5 = .ok (.invokevirtual 107, 3) := by decide +kernel
theorem dX2_readCost_8 : decode cX2_readCost 8 = .ok (.istore_n 1, 1) := by decide +kernel
theorem dX2_readCost_9 : decode cX2_readCost 9 = .ok (.aload_n 0, 1) := by decide +kernel
theorem dX2_readCost_10 : decode cX2_readCost 10 = .ok (.ldc 76, 2) := by decide +kernel
theorem dX2_readCost_12 : decode cX2_readCost 12 = .ok (.invokevirtual 46, 3) := by decide +kernel
theorem dX2_readCost_15 : decode cX2_readCost 15 = .ok (.ifCond .eq 26, 3) := by decide +kernel
theorem dX2_readCost_18 : decode cX2_readCost 18 = .ok (.aload_n 0, 1) := by decide +kernel
theorem dX2_readCost_19 : decode cX2_readCost 19 = .ok (.invokevirtual 31, 3) := by decide +kernel
theorem dX2_readCost_22 : decode cX2_readCost 22 = .ok (.aload_n 0, 1) := by decide +kernel
theorem dX2_readCost_23 : decode cX2_readCost 23 = .ok (.iconst 3, 1) := by decide +kernel
theorem dX2_readCost_24 : decode cX2_readCost 24 = .ok (.invokevirtual 91, 3) := by decide +kernel
theorem dX2_readCost_27 : decode cX2_readCost 27 = .ok (.ifCond .eq 12, 3) := by decide +kernel
theorem dX2_readCost_30 : decode cX2_readCost 30 = .ok (.iconst 3, 1) := by decide +kernel
theorem dX2_readCost_31 : decode cX2_readCost 31 = .ok (.aload_n 0, 1) := by decide +kernel
theorem dX2_readCost_32 : decode cX2_readCost 32 = .ok (.getfield 95, 3) := by decide +kernel
theorem dX2_readCost_35 : decode cX2_readCost 35 = .ok (.iadd, 1) := by decide +kernel
theorem dX2_readCost_36 : decode cX2_readCost 36 = .ok (.goto 4, 3) := by decide +kernel
theorem dX2_readCost_39 : decode cX2_readCost 39 = .ok (.iconst (-1), 1) := by decide +kernel
theorem dX2_readCost_40 : decode cX2_readCost 40 = .ok (.istore_n 1, 1) := by decide +kernel
theorem dX2_readCost_41 : decode cX2_readCost 41 = .ok (.iload_n 1, 1) := by decide +kernel
theorem dX2_readCost_42 : decode cX2_readCost 42 = .ok (.iconst (-1), 1) := by decide +kernel
theorem dX2_readCost_43 : decode cX2_readCost 43 = .ok (.if_icmp .ne 5, 3) := by decide +kernel
theorem dX2_readCost_46 : decode cX2_readCost 46 = .ok (.iconst 0, 1) := by decide +kernel
theorem dX2_readCost_47 : decode cX2_readCost 47 = .ok (.ireturn, 1) := by decide +kernel
theorem dX2_readCost_48 : decode cX2_readCost 48 = .ok (.aload_n 0, 1) := by decide +kernel
theorem dX2_readCost_49 : decode cX2_readCost 49 = .ok (.invokevirtual 31, 3) := by decide +kernel
theorem dX2_readCost_52 : decode cX2_readCost 52 = .ok (.aload_n 0, 1) := by decide +kernel
theorem dX2_readCost_53 : decode cX2_readCost 53 = .ok (.bipush 100, 2) := by decide +kernel
theorem dX2_readCost_55 : decode cX2_readCost 55 = .ok (.invokevirtual 91, 3) := by decide +kernel
theorem dX2_readCost_58 : decode cX2_readCost 58 = .ok (.ifCond .ne 5, 3) := by decide +kernel
theorem dX2_readCost_61 : decode cX2_readCost 61 = .ok (.iconst 0, 1) := by decide +kernel
theorem dX2_readCost_62 : decode cX2_readCost 62 = .ok (.ireturn, 1) := by decide +kernel
theorem dX2_readCost_63 : decode cX2_readCost 63 = .ok (.aload_n 0, 1) := by decide +kernel
theorem dX2_readCost_64 : decode cX2_readCost 64 = .ok (.getfield 15, 3) := by decide +kernel
theorem dX2_readCost_67 : decode cX2_readCost 67 = .ok (.iload_n 1, 1) := by decide +kernel
theorem dX2_readCost_68 : decode cX2_readCost 68 = .ok (.aload_n 0, 1) := by decide +kernel
theorem dX2_readCost_69 : decode cX2_readCost 69 = .ok (.getfield 95, 3) := by decide +kernel
theorem dX2_readCost_72 : decode cX2_readCost 72 = .ok (.invokevirtual 114, 3) := by decide +kernel
theorem dX2_readCost_75 : decode cX2_readCost 75 = .ok (.aload_n 0, 1) := by decide +kernel
theorem dX2_readCost_76 : decode cX2_readCost 76 = .ok (.invokevirtual 31, 3) := by decide +kernel
theorem dX2_readCost_79 : decode cX2_readCost 79 = .ok (.aload_n 0, 1) := by decide +kernel
theorem dX2_readCost_80 : decode cX2_readCost 80 = .ok (.invokevirtual 63, 3) := by decide +kernel
theorem dX2_readCost_83 : decode cX2_readCost 83 = .ok (.ireturn, 1) := by decide +kernel
set_option maxRecDepth 20000 in
theorem ggX2_readMust_X2_advance : GoodIn wsX2_readMust wsX2_advance := goodIn_r _ [7, 8, 9, 10, 11, 1, 12, 13, 14, 15, 16, 17, 18, 19, 20, 21, 22, 23, 24, 6, 25, 50, 51, 52, 53, 54, 55, 56, 57, 58] (by decide +kernel) (by decide +kernel)
set_option maxRecDepth 20000 in
theorem gX2_readMust_X2_advance : GoodIn wsX2_readMust (wsV RX2 31 RX2 yX2_advance wsX2_advance) := goodIn_app (goodIn_of _ (by decide +kernel)) ggX2_readMust_X2_advance
set_option maxRecDepth 20000 in
theorem ggX2_readMust_X2_isNumberUpTo : GoodIn wsX2_readMust wsX2_isNumberUpTo := goodIn_r _ [29, 11, 8, 9, 1, 50, 51, 52, 53, 54, 55, 56] (by decide +kernel) (by decide +kernel)
set_option maxRecDepth 20000 in
theorem gX2_readMust_X2_isNumberUpTo : GoodIn wsX2_readMust (wsV RX2 91 RX2 yX2_isNumberUpTo wsX2_isNumberUpTo) := goodIn_app (goodIn_of _ (by decide +kernel)) ggX2_readMust_X2_isNumberUpTo
set_option maxRecDepth 20000 in
theorem ggX2_readMust_X4_demandTalk : GoodIn wsX2_readMust wsX4_demandTalk := goodIn_r _ [34, 35, 36, 37, 38, 39, 40, 41, 42, 43, 44, 33, 45, 59, 60, 61, 62, 63, 64, 65] (by decide +kernel) (by decide +kernel)
set_option maxRecDepth 20000 in
theorem gX2_readMust_X4_demandTalk : GoodIn wsX2_readMust (wsV RX2 117 RX4 yX4_demandTalk wsX4_demandTalk) := goodIn_app (goodIn_of _ (by decide +kernel)) ggX2_readMust_X4_demandTalk
set_option maxRecDepth 20000 in
theorem ggX2_readMust_X2_endsStatement : GoodIn wsX2_readMust wsX2_endsStatement := goodIn_r _ [49, 11, 3, 4, 5, 6, 7, 8, 9, 10, 1, 12, 13, 14, 15, 16, 17, 18, 19, 20, 21, 22, 23, 24, 25, 50, 51, 52, 53, 54, 55, 56, 57, 58] (by decide +kernel) (by decide +kernel)
set_option maxRecDepth 20000 in
theorem gX2_readMust_X2_endsStatement : GoodIn wsX2_readMust (wsV RX2 63 RX2 yX2_endsStatement wsX2_endsStatement) := goodIn_app (goodIn_of _ (by decide +kernel)) ggX2_readMust_X2_endsStatement
theorem dX2_readMust_0 : decode cX2_readMust 0 = .ok (.aload_n 0, 1) := by decide +kernel
theorem dX2_readMust_1 : decode cX2_readMust 1 = .ok (.invokevirtual 31, 3) := by decide +kernel
theorem dX2_readMust_4 : decode cX2_readMust 4 = .ok (.aload_n 0, 1) := by decide +kernel
theorem dX2_readMust_5 : decode cX2_readMust 5 = .ok (.iconst 4, 1) := by decide +kernel
theorem dX2_readMust_6 : decode cX2_readMust 6 = .ok (.invokevirtual 91, 3) := by decide +kernel
theorem dX2_readMust_9 : decode cX2_readMust 9 = .ok (.ifCond .ne 5, 3) := by decide +kernel
theorem dX2_readMust_12 : decode cX2_readMust 12 = .ok (.iconst 0, 1) := by decide +kernel
theorem dX2_readMust_13 : decode cX2_readMust 13 = .ok (.ireturn, 1) := by decide +kernel
theorem dX2_readMust_14 : decode cX2_readMust 14 = .ok (.aload_n 0, 1) := by decide +kernel
theorem dX2_readMust_15 : decode cX2_readMust 15 = .ok (.getfield 95, 3) := by decide +kernel
theorem dX2_readMust_18 : decode cX2_readMust 18 = .ok (.istore_n 1, 1) := by decide +kernel
theorem dX2_readMust_19 : decode cX2_readMust 19 = .ok (.aload_n 0, 1) := by decide +kernel
theorem dX2_readMust_20 : decode cX2_readMust 20 = .ok (.invokevirtual 31, 3) := by decide +kernel
theorem dX2_readMust_23 : decode cX2_readMust 23 = .ok (.aload_n 0, 1) := by decide +kernel
theorem dX2_readMust_24 : decode cX2_readMust 24 = .ok (.iconst 4, 1) := by decide +kernel
theorem dX2_readMust_25 : decode cX2_readMust 25 = .ok (.invokevirtual 91, 3) := by decide +kernel
theorem dX2_readMust_28 : decode cX2_readMust 28 = .ok (.ifCond .eq 11, 3) := by decide +kernel
theorem dX2_readMust_31 : decode cX2_readMust 31 = .ok (.aload_n 0, 1) := by decide +kernel
theorem dX2_readMust_32 : decode cX2_readMust 32 = .ok (.getfield 95, 3) := by decide +kernel
theorem dX2_readMust_35 : decode cX2_readMust 35 = .ok (.iload_n 1, 1) := by decide +kernel
theorem dX2_readMust_36 : decode cX2_readMust 36 = .ok (.if_icmp .ne 5, 3) := by decide +kernel
theorem dX2_readMust_39 : decode cX2_readMust 39 = .ok (.iconst 0, 1) := by decide +kernel
theorem dX2_readMust_40 : decode cX2_readMust 40 = .ok (.ireturn, 1) := by decide +kernel
theorem dX2_readMust_41 : decode cX2_readMust 41 = .ok (.aload_n 0, 1) := by decide +kernel
theorem dX2_readMust_42 : decode cX2_readMust 42 = .ok (.getfield 15, 3) := by decide +kernel
theorem dX2_readMust_45 : decode cX2_readMust 45 = .ok (.iload_n 1, 1) := by decide +kernel
theorem dX2_readMust_46 : decode cX2_readMust 46 = .ok (.aload_n 0, 1) := by decide +kernel
theorem dX2_readMust_47 : decode cX2_readMust 47 = .ok (.getfield 95, 3) := by decide +kernel
theorem dX2_readMust_50 : decode cX2_readMust 50 = .ok (.iconst 1, 1) := by decide +kernel
theorem dX2_readMust_51 : decode cX2_readMust 51 = .ok (.invokevirtual 117, 3) := by decide +kernel
theorem dX2_readMust_54 : decode cX2_readMust 54 = .ok (.aload_n 0, 1) := by decide +kernel
theorem dX2_readMust_55 : decode cX2_readMust 55 = .ok (.invokevirtual 31, 3) := by decide +kernel
theorem dX2_readMust_58 : decode cX2_readMust 58 = .ok (.aload_n 0, 1) := by decide +kernel
theorem dX2_readMust_59 : decode cX2_readMust 59 = .ok (.invokevirtual 63, 3) := by decide +kernel
theorem dX2_readMust_62 : decode cX2_readMust 62 = .ok (.ireturn, 1) := by decide +kernel
set_option maxRecDepth 20000 in
theorem ggX2_endsStatement_X2_advance : GoodIn wsX2_endsStatement wsX2_advance := goodIn_r _ [6, 7, 8, 9, 1, 10, 11, 12, 13, 14, 15, 16, 17, 18, 19, 20, 21, 22, 23, 5, 24, 25, 26, 27, 28, 29, 30, 31, 32, 33] (by decide +kernel) (by decide +kernel)
set_option maxRecDepth 20000 in
theorem gX2_endsStatement_X2_advance : GoodIn wsX2_endsStatement (wsV RX2 31 RX2 yX2_advance wsX2_advance) := goodIn_app (goodIn_of _ (by decide +kernel)) ggX2_endsStatement_X2_advance
theorem dX2_endsStatement_0 : decode cX2_endsStatement 0 = .ok (.aload_n 0, 1) := by decide +kernel
theorem dX2_endsStatement_1 : decode cX2_endsStatement 1 = .ok (.getfield 34, 3) := by decide +kernel
theorem dX2_endsStatement_4 : decode cX2_endsStatement 4 = .ok (.iconst 3, 1) := by decide +kernel
theorem dX2_endsStatement_5 : decode cX2_endsStatement 5 = .ok (.if_icmp .eq 5, 3) := by decide +kernel
theorem dX2_endsStatement_8 : decode cX2_endsStatement 8 = .ok (.iconst 0, 1) := by decide +kernel
theorem dX2_endsStatement_9 : decode cX2_endsStatement 9 = .ok (.ireturn, 1) := by decide +kernel
theorem dX2_endsStatement_10 : decode cX2_endsStatement 10 = .ok (.aload_n 0, 1) := by decide +kernel
theorem dX2_endsStatement_11 : decode cX2_endsStatement 11 = .ok (.invokevirtual 31, 3) := by decide +kernel
theorem dX2_endsStatement_14 : decode cX2_endsStatement 14 = .ok (.iconst 1, 1) := by decide +kernel
theorem dX2_endsStatement_15 : decode cX2_endsStatement 15 = .ok (.ireturn, 1) := by decide +kernel
set_option maxRecDepth 20000 in
theorem ggX2_mendNamed_X2_isWord : GoodIn wsX2_mendNamed wsX2_isWord := goodIn_r _ [5, 6, 7, 8, 9, 10, 11, 12, 13, 14, 15, 16, 17, 18, 19, 20, 21, 22, 23, 24, 25, 26, 27, 28, 29, 30, 31, 32, 33, 34, 35, 36, 37, 38, 39, 40, 41, 42, 43, 44, 45, 46, 47, 48, 49, 50, 51, 52, 53, 54, 55, 56, 57, 58, 59, 60, 61, 62, 63, 64, 65, 66, 67, 68, 69, 70, 71, 72, 73, 74] (by decide +kernel) (by decide +kernel)
set_option maxRecDepth 20000 in
theorem gX2_mendNamed_X2_isWord : GoodIn wsX2_mendNamed (wsV RX2 46 RX2 yX2_isWord wsX2_isWord) := goodIn_app (goodIn_of _ (by decide +kernel)) ggX2_mendNamed_X2_isWord
theorem dX2_mendNamed_0 : decode cX2_mendNamed 0 = .ok (.aload_n 0, 1) := by decide +kernel
theorem dX2_mendNamed_1 : decode cX2_mendNamed 1 = .ok (.ldc 121, 2) := by decide +kernel
theorem dX2_mendNamed_3 : decode cX2_mendNamed 3 = .ok (.invokevirtual 46, 3) := by decide +kernel
theorem dX2_mendNamed_6 : decode cX2_mendNamed 6 = .ok (.ifCond .eq 5, 3) := by decide +kernel
theorem dX2_mendNamed_9 : decode cX2_mendNamed 9 = .ok (.iconst 0, 1) := by decide +kernel
theorem dX2_mendNamed_10 : decode cX2_mendNamed 10 = .ok (.ireturn, 1) := by decide +kernel
theorem dX2_mendNamed_11 : decode cX2_mendNamed 11 = .ok (.aload_n 0, 1) := by decide +kernel
theorem dX2_mendNamed_12 : decode cX2_mendNamed 12 = .ok (.ldc 123, 2) := by decide +kernel
theorem dX2_mendNamed_14 : decode cX2_mendNamed 14 = .ok (.invokevirtual 46, 3) := by decide +kernel
theorem dX2_mendNamed_17 : decode cX2_mendNamed 17 = .ok (.ifCond .eq 5, 3) := by decide +kernel
theorem dX2_mendNamed_20 : decode cX2_mendNamed 20 = .ok (.iconst 1, 1) := by decide +kernel
theorem dX2_mendNamed_21 : decode cX2_mendNamed 21 = .ok (.ireturn, 1) := by decide +kernel
theorem dX2_mendNamed_22 : decode cX2_mendNamed 22 = .ok (.aload_n 0, 1) := by decide +kernel
theorem dX2_mendNamed_23 : decode cX2_mendNamed 23 = .ok (.ldc 125, 2) := by decide +kernel
theorem dX2_mendNamed_25 : decode cX2_mendNamed 25 = .ok (.invokevirtual 46, 3) := by decide +kernel
theorem dX2_mendNamed_28 : decode cX2_mendNamed 28 = .ok (.ifCond .eq 7, 3) := by decide +kernel
theorem dX2_mendNamed_31 : decode cX2_mendNamed 31 = .ok (.iconst 2, 1) := by decide +kernel
theorem dX2_mendNamed_32 : decode cX2_mendNamed 32 = .ok (.goto 4, 3) := by decide +kernel
theorem dX2_mendNamed_35 : decode cX2_mendNamed 35 = .ok (.iconst (-1), 1) := by decide +kernel
theorem dX2_mendNamed_36 : decode cX2_mendNamed 36 = .ok (.ireturn, 1) := by decide +kernel
set_option maxRecDepth 20000 in
theorem ggX2_isWord_J0_length_8abf5 : GoodIn wsX2_isWord wsJ0_length_8abf5 := goodIn_r _ [9, 10, 11, 12, 13, 8, 14, 15, 16] (by decide +kernel) (by decide +kernel)
set_option maxRecDepth 20000 in
theorem gX2_isWord_J0_length_8abf5 : GoodIn wsX2_isWord (wsV RX2 127 RJ0 yJ0_length_8abf5 wsJ0_length_8abf5) := goodIn_app (goodIn_of _ (by decide +kernel)) ggX2_isWord_J0_length_8abf5
set_option maxRecDepth 20000 in
theorem ggX2_isWord_X3_at : GoodIn wsX2_isWord wsX3_at := goodIn_r _ [21, 22, 23, 68, 69] (by decide +kernel) (by decide +kernel)
set_option maxRecDepth 20000 in
theorem gX2_isWord_X3_at : GoodIn wsX2_isWord (wsV RX2 132 RX3 yX3_at wsX3_at) := goodIn_app (goodIn_of _ (by decide +kernel)) ggX2_isWord_X3_at
set_option maxRecDepth 20000 in
theorem ggX2_isWord_J0_charAt_5068e : GoodIn wsX2_isWord wsJ0_charAt_5068e := goodIn_r _ [27, 10, 28, 29, 30, 8, 31, 15, 16, 32, 33, 34, 35, 36, 37, 38, 39, 40, 41, 42, 43, 44, 45, 46, 47, 48, 49, 50, 51, 52, 53, 54, 55, 56, 57, 58, 59, 60] (by decide +kernel) (by decide +kernel)
set_option maxRecDepth 20000 in
theorem gX2_isWord_J0_charAt_5068e : GoodIn wsX2_isWord (wsV RX2 138 RJ0 yJ0_charAt_5068e wsJ0_charAt_5068e) := goodIn_app (goodIn_of _ (by decide +kernel)) ggX2_isWord_J0_charAt_5068e
theorem dX2_isWord_0 : decode cX2_isWord 0 = .ok (.aload_n 0, 1) := by decide +kernel
theorem dX2_isWord_1 : decode cX2_isWord 1 = .ok (.getfield 34, 3) := by decide +kernel
theorem dX2_isWord_4 : decode cX2_isWord 4 = .ok (.iconst 1, 1) := by decide +kernel
theorem dX2_isWord_5 : decode cX2_isWord 5 = .ok (.if_icmp .ne 19, 3) := by decide +kernel
theorem dX2_isWord_8 : decode cX2_isWord 8 = .ok (.aload_n 0, 1) := by decide +kernel
theorem dX2_isWord_9 : decode cX2_isWord 9 = .ok (.getfield 28, 3) := by decide +kernel
theorem dX2_isWord_12 : decode cX2_isWord 12 = .ok (.aload_n 0, 1) := by decide +kernel
theorem dX2_isWord_13 : decode cX2_isWord 13 = .ok (.getfield 41, 3) := by decide +kernel
theorem dX2_isWord_16 : decode cX2_isWord 16 = .ok (.isub, 1) := by decide +kernel
theorem dX2_isWord_17 : decode cX2_isWord 17 = .ok (.aload_n 1, 1) := by decide +kernel
theorem dX2_isWord_18 : decode cX2_isWord 18 = .ok (.invokevirtual 127, 3) := by decide +kernel
theorem dX2_isWord_21 : decode cX2_isWord 21 = .ok (.if_icmp .eq 5, 3) := by decide +kernel
theorem dX2_isWord_24 : decode cX2_isWord 24 = .ok (.iconst 0, 1) := by decide +kernel
theorem dX2_isWord_25 : decode cX2_isWord 25 = .ok (.ireturn, 1) := by decide +kernel
theorem dX2_isWord_26 : decode cX2_isWord 26 = .ok (.iconst 0, 1) := by decide +kernel
theorem dX2_isWord_27 : decode cX2_isWord 27 = .ok (.istore_n 2, 1) := by decide +kernel
theorem dX2_isWord_28 : decode cX2_isWord 28 = .ok (.iload_n 2, 1) := by decide +kernel
theorem dX2_isWord_29 : decode cX2_isWord 29 = .ok (.aload_n 1, 1) := by decide +kernel
theorem dX2_isWord_30 : decode cX2_isWord 30 = .ok (.invokevirtual 127, 3) := by decide +kernel
theorem dX2_isWord_33 : decode cX2_isWord 33 = .ok (.if_icmp .ge 32, 3) := by decide +kernel
theorem dX2_isWord_36 : decode cX2_isWord 36 = .ok (.aload_n 0, 1) := by decide +kernel
theorem dX2_isWord_37 : decode cX2_isWord 37 = .ok (.getfield 9, 3) := by decide +kernel
theorem dX2_isWord_40 : decode cX2_isWord 40 = .ok (.aload_n 0, 1) := by decide +kernel
theorem dX2_isWord_41 : decode cX2_isWord 41 = .ok (.getfield 41, 3) := by decide +kernel
theorem dX2_isWord_44 : decode cX2_isWord 44 = .ok (.iload_n 2, 1) := by decide +kernel
theorem dX2_isWord_45 : decode cX2_isWord 45 = .ok (.iadd, 1) := by decide +kernel
theorem dX2_isWord_46 : decode cX2_isWord 46 = .ok (.invokevirtual 132, 3) := by decide +kernel
theorem dX2_isWord_49 : decode cX2_isWord 49 = .ok (.aload_n 1, 1) := by decide +kernel
theorem dX2_isWord_50 : decode cX2_isWord 50 = .ok (.iload_n 2, 1) := by decide +kernel
theorem dX2_isWord_51 : decode cX2_isWord 51 = .ok (.invokevirtual 138, 3) := by decide +kernel
theorem dX2_isWord_54 : decode cX2_isWord 54 = .ok (.if_icmp .eq 5, 3) := by decide +kernel
theorem dX2_isWord_57 : decode cX2_isWord 57 = .ok (.iconst 0, 1) := by decide +kernel
theorem dX2_isWord_58 : decode cX2_isWord 58 = .ok (.ireturn, 1) := by decide +kernel
theorem dX2_isWord_59 : decode cX2_isWord 59 = .ok (.iinc 2 1, 3) := by decide +kernel
theorem dX2_isWord_62 : decode cX2_isWord 62 = .ok (.goto (-34), 3) := by decide +kernel
theorem dX2_isWord_65 : decode cX2_isWord 65 = .ok (.iconst 1, 1) := by decide +kernel
theorem dX2_isWord_66 : decode cX2_isWord 66 = .ok (.ireturn, 1) := by decide +kernel
theorem dX2_isNumberUpTo_0 : decode cX2_isNumberUpTo 0 = .ok (.aload_n 0, 1) := by decide +kernel
theorem dX2_isNumberUpTo_1 : decode cX2_isNumberUpTo 1 = .ok (.getfield 34, 3) := by decide +kernel
theorem dX2_isNumberUpTo_4 : decode cX2_isNumberUpTo 4 = .ok (.iconst 2, 1) := by decide +kernel
theorem dX2_isNumberUpTo_5 : decode cX2_isNumberUpTo 5 = .ok (.if_icmp .ne 28, 3) := by decide +kernel
theorem dX2_isNumberUpTo_8 : decode cX2_isNumberUpTo 8 = .ok (.aload_n 0, 1) := by decide +kernel
theorem dX2_isNumberUpTo_9 : decode cX2_isNumberUpTo 9 = .ok (.getfield 28, 3) := by decide +kernel
theorem dX2_isNumberUpTo_12 : decode cX2_isNumberUpTo 12 = .ok (.aload_n 0, 1) := by decide +kernel
theorem dX2_isNumberUpTo_13 : decode cX2_isNumberUpTo 13 = .ok (.getfield 41, 3) := by decide +kernel
theorem dX2_isNumberUpTo_16 : decode cX2_isNumberUpTo 16 = .ok (.isub, 1) := by decide +kernel
theorem dX2_isNumberUpTo_17 : decode cX2_isNumberUpTo 17 = .ok (.iconst 3, 1) := by decide +kernel
theorem dX2_isNumberUpTo_18 : decode cX2_isNumberUpTo 18 = .ok (.if_icmp .gt 15, 3) := by decide +kernel
theorem dX2_isNumberUpTo_21 : decode cX2_isNumberUpTo 21 = .ok (.aload_n 0, 1) := by decide +kernel
theorem dX2_isNumberUpTo_22 : decode cX2_isNumberUpTo 22 = .ok (.getfield 95, 3) := by decide +kernel
theorem dX2_isNumberUpTo_25 : decode cX2_isNumberUpTo 25 = .ok (.iload_n 1, 1) := by decide +kernel
theorem dX2_isNumberUpTo_26 : decode cX2_isNumberUpTo 26 = .ok (.if_icmp .gt 7, 3) := by decide +kernel
theorem dX2_isNumberUpTo_29 : decode cX2_isNumberUpTo 29 = .ok (.iconst 1, 1) := by decide +kernel
theorem dX2_isNumberUpTo_30 : decode cX2_isNumberUpTo 30 = .ok (.goto 4, 3) := by decide +kernel
theorem dX2_isNumberUpTo_33 : decode cX2_isNumberUpTo 33 = .ok (.iconst 0, 1) := by decide +kernel
theorem dX2_isNumberUpTo_34 : decode cX2_isNumberUpTo 34 = .ok (.ireturn, 1) := by decide +kernel
set_option maxRecDepth 20000 in
theorem ggX2_advance_X3_size : GoodIn wsX2_advance wsX3_size := goodIn_r _ [10, 11, 28, 29] (by decide +kernel) (by decide +kernel)
set_option maxRecDepth 20000 in
theorem gX2_advance_X3_size : GoodIn wsX2_advance (wsV RX2 142 RX3 yX3_size wsX3_size) := goodIn_app (goodIn_of _ (by decide +kernel)) ggX2_advance_X3_size
set_option maxRecDepth 20000 in
theorem ggX2_advance_X3_at : GoodIn wsX2_advance wsX3_at := goodIn_r _ [15, 11, 16, 28, 29] (by decide +kernel) (by decide +kernel)
set_option maxRecDepth 20000 in
theorem gX2_advance_X3_at : GoodIn wsX2_advance (wsV RX2 132 RX3 yX3_at wsX3_at) := goodIn_app (goodIn_of _ (by decide +kernel)) ggX2_advance_X3_at
set_option maxRecDepth 20000 in
theorem ggX2_advance_X2_kindOf : GoodIn wsX2_advance wsX2_kindOf := goodIn_r _ [20] (by decide +kernel) (by decide +kernel)
set_option maxRecDepth 20000 in
theorem gX2_advance_X2_kindOf : GoodIn wsX2_advance (va_wsS RX2 145 yX2_kindOf wsX2_kindOf) := goodIn_app (goodIn_of _ (by decide +kernel)) ggX2_advance_X2_kindOf
theorem dX2_advance_0 : decode cX2_advance 0 = .ok (.aload_n 0, 1) := by decide +kernel
theorem dX2_advance_1 : decode cX2_advance 1 = .ok (.aload_n 0, 1) := by decide +kernel
theorem dX2_advance_2 : decode cX2_advance 2 = .ok (.getfield 28, 3) := by decide +kernel
theorem dX2_advance_5 : decode cX2_advance 5 = .ok (.putfield 41, 3) := by decide +kernel
theorem dX2_advance_8 : decode cX2_advance 8 = .ok (.aload_n 0, 1) := by decide +kernel
theorem dX2_advance_9 : decode cX2_advance 9 = .ok (.getfield 41, 3) := by decide +kernel
theorem dX2_advance_12 : decode cX2_advance 12 = .ok (.aload_n 0, 1) := by decide +kernel
theorem dX2_advance_13 : decode cX2_advance 13 = .ok (.getfield 9, 3) := by decide +kernel
theorem dX2_advance_16 : decode cX2_advance 16 = .ok (.invokevirtual 142, 3) := by decide +kernel
theorem dX2_advance_19 : decode cX2_advance 19 = .ok (.if_icmp .ge 34, 3) := by decide +kernel
theorem dX2_advance_22 : decode cX2_advance 22 = .ok (.aload_n 0, 1) := by decide +kernel
theorem dX2_advance_23 : decode cX2_advance 23 = .ok (.getfield 9, 3) := by decide +kernel
theorem dX2_advance_26 : decode cX2_advance 26 = .ok (.aload_n 0, 1) := by decide +kernel
theorem dX2_advance_27 : decode cX2_advance 27 = .ok (.getfield 41, 3) := by decide +kernel
theorem dX2_advance_30 : decode cX2_advance 30 = .ok (.invokevirtual 132, 3) := by decide +kernel
theorem dX2_advance_33 : decode cX2_advance 33 = .ok (.invokestatic 145, 3) := by decide +kernel
theorem dX2_advance_36 : decode cX2_advance 36 = .ok (.iconst 4, 1) := by decide +kernel
theorem dX2_advance_37 : decode cX2_advance 37 = .ok (.if_icmp .ne 16, 3) := by decide +kernel
theorem dX2_advance_40 : decode cX2_advance 40 = .ok (.aload_n 0, 1) := by decide +kernel
theorem dX2_advance_41 : decode cX2_advance 41 = .ok (.dup, 1) := by decide +kernel
theorem dX2_advance_42 : decode cX2_advance 42 = .ok (.getfield 41, 3) := by decide +kernel
theorem dX2_advance_45 : decode cX2_advance 45 = .ok (.iconst 1, 1) := by decide +kernel
theorem dX2_advance_46 : decode cX2_advance 46 = .ok (.iadd, 1) := by decide +kernel
theorem dX2_advance_47 : decode cX2_advance 47 = .ok (.putfield 41, 3) := by decide +kernel
theorem dX2_advance_50 : decode cX2_advance 50 = .ok (.goto (-42), 3) := by decide +kernel
theorem dX2_advance_53 : decode cX2_advance 53 = .ok (.aload_n 0, 1) := by decide +kernel
theorem dX2_advance_54 : decode cX2_advance 54 = .ok (.aload_n 0, 1) := by decide +kernel
theorem dX2_advance_55 : decode cX2_advance 55 = .ok (.getfield 9, 3) := by decide +kernel
theorem dX2_advance_58 : decode cX2_advance 58 = .ok (.aload_n 0, 1) := by decide +kernel
theorem dX2_advance_59 : decode cX2_advance 59 = .ok (.getfield 41, 3) := by decide +kernel
theorem dX2_advance_62 : decode cX2_advance 62 = .ok (.invokevirtual 132, 3) := by decide +kernel
theorem dX2_advance_65 : decode cX2_advance 65 = .ok (.invokestatic 145, 3) := by decide +kernel
theorem dX2_advance_68 : decode cX2_advance 68 = .ok (.putfield 34, 3) := by decide +kernel
theorem dX2_advance_71 : decode cX2_advance 71 = .ok (.aload_n 0, 1) := by decide +kernel
theorem dX2_advance_72 : decode cX2_advance 72 = .ok (.aload_n 0, 1) := by decide +kernel
theorem dX2_advance_73 : decode cX2_advance 73 = .ok (.getfield 34, 3) := by decide +kernel
theorem dX2_advance_76 : decode cX2_advance 76 = .ok (.ifCond .ne 10, 3) := by decide +kernel
theorem dX2_advance_79 : decode cX2_advance 79 = .ok (.aload_n 0, 1) := by decide +kernel
theorem dX2_advance_80 : decode cX2_advance 80 = .ok (.getfield 41, 3) := by decide +kernel
theorem dX2_advance_83 : decode cX2_advance 83 = .ok (.goto 9, 3) := by decide +kernel
theorem dX2_advance_86 : decode cX2_advance 86 = .ok (.aload_n 0, 1) := by decide +kernel
theorem dX2_advance_87 : decode cX2_advance 87 = .ok (.getfield 41, 3) := by decide +kernel
theorem dX2_advance_90 : decode cX2_advance 90 = .ok (.iconst 1, 1) := by decide +kernel
theorem dX2_advance_91 : decode cX2_advance 91 = .ok (.iadd, 1) := by decide +kernel
theorem dX2_advance_92 : decode cX2_advance 92 = .ok (.putfield 28, 3) := by decide +kernel
theorem dX2_advance_95 : decode cX2_advance 95 = .ok (.aload_n 0, 1) := by decide +kernel
theorem dX2_advance_96 : decode cX2_advance 96 = .ok (.getfield 34, 3) := by decide +kernel
theorem dX2_advance_99 : decode cX2_advance 99 = .ok (.iconst 1, 1) := by decide +kernel
theorem dX2_advance_100 : decode cX2_advance 100 = .ok (.if_icmp .eq 11, 3) := by decide +kernel
theorem dX2_advance_103 : decode cX2_advance 103 = .ok (.aload_n 0, 1) := by decide +kernel
theorem dX2_advance_104 : decode cX2_advance 104 = .ok (.getfield 34, 3) := by decide +kernel
theorem dX2_advance_107 : decode cX2_advance 107 = .ok (.iconst 2, 1) := by decide +kernel
theorem dX2_advance_108 : decode cX2_advance 108 = .ok (.if_icmp .ne 51, 3) := by decide +kernel
theorem dX2_advance_111 : decode cX2_advance 111 = .ok (.aload_n 0, 1) := by decide +kernel
theorem dX2_advance_112 : decode cX2_advance 112 = .ok (.getfield 28, 3) := by decide +kernel
theorem dX2_advance_115 : decode cX2_advance 115 = .ok (.aload_n 0, 1) := by decide +kernel
theorem dX2_advance_116 : decode cX2_advance 116 = .ok (.getfield 9, 3) := by decide +kernel
theorem dX2_advance_119 : decode cX2_advance 119 = .ok (.invokevirtual 142, 3) := by decide +kernel
theorem dX2_advance_122 : decode cX2_advance 122 = .ok (.if_icmp .ge 37, 3) := by decide +kernel
theorem dX2_advance_125 : decode cX2_advance 125 = .ok (.aload_n 0, 1) := by decide +kernel
theorem dX2_advance_126 : decode cX2_advance 126 = .ok (.getfield 9, 3) := by decide +kernel
theorem dX2_advance_129 : decode cX2_advance 129 = .ok (.aload_n 0, 1) := by decide +kernel
theorem dX2_advance_130 : decode cX2_advance 130 = .ok (.getfield 28, 3) := by decide +kernel
theorem dX2_advance_133 : decode cX2_advance 133 = .ok (.invokevirtual 132, 3) := by decide +kernel
theorem dX2_advance_136 : decode cX2_advance 136 = .ok (.invokestatic 145, 3) := by decide +kernel
theorem dX2_advance_139 : decode cX2_advance 139 = .ok (.aload_n 0, 1) := by decide +kernel
theorem dX2_advance_140 : decode cX2_advance 140 = .ok (.getfield 34, 3) := by decide +kernel
theorem dX2_advance_143 : decode cX2_advance 143 = .ok (.if_icmp .ne 16, 3) := by decide +kernel
theorem dX2_advance_146 : decode cX2_advance 146 = .ok (.aload_n 0, 1) := by decide +kernel
theorem dX2_advance_147 : decode cX2_advance 147 = .ok (.dup, 1) := by decide +kernel
theorem dX2_advance_148 : decode cX2_advance 148 = .ok (.getfield 28, 3) := by decide +kernel
theorem dX2_advance_151 : decode cX2_advance 151 = .ok (.iconst 1, 1) := by decide +kernel
theorem dX2_advance_152 : decode cX2_advance 152 = .ok (.iadd, 1) := by decide +kernel
theorem dX2_advance_153 : decode cX2_advance 153 = .ok (.putfield 28, 3) := by decide +kernel
theorem dX2_advance_156 : decode cX2_advance 156 = .ok (.goto (-45), 3) := by decide +kernel
theorem dX2_advance_159 : decode cX2_advance 159 = .ok (.aload_n 0, 1) := by decide +kernel
theorem dX2_advance_160 : decode cX2_advance 160 = .ok (.iconst 0, 1) := by decide +kernel
theorem dX2_advance_161 : decode cX2_advance 161 = .ok (.putfield 95, 3) := by decide +kernel
theorem dX2_advance_164 : decode cX2_advance 164 = .ok (.aload_n 0, 1) := by decide +kernel
theorem dX2_advance_165 : decode cX2_advance 165 = .ok (.getfield 41, 3) := by decide +kernel
theorem dX2_advance_168 : decode cX2_advance 168 = .ok (.istore_n 1, 1) := by decide +kernel
theorem dX2_advance_169 : decode cX2_advance 169 = .ok (.aload_n 0, 1) := by decide +kernel
theorem dX2_advance_170 : decode cX2_advance 170 = .ok (.getfield 34, 3) := by decide +kernel
theorem dX2_advance_173 : decode cX2_advance 173 = .ok (.iconst 2, 1) := by decide +kernel
theorem dX2_advance_174 : decode cX2_advance 174 = .ok (.if_icmp .ne 50, 3) := by decide +kernel
theorem dX2_advance_177 : decode cX2_advance 177 = .ok (.iload_n 1, 1) := by decide +kernel
theorem dX2_advance_178 : decode cX2_advance 178 = .ok (.aload_n 0, 1) := by decide +kernel
theorem dX2_advance_179 : decode cX2_advance 179 = .ok (.getfield 28, 3) := by decide +kernel
theorem dX2_advance_182 : decode cX2_advance 182 = .ok (.if_icmp .ge 42, 3) := by decide +kernel
theorem dX2_advance_185 : decode cX2_advance 185 = .ok (.iload_n 1, 1) := by decide +kernel
theorem dX2_advance_186 : decode cX2_advance 186 = .ok (.aload_n 0, 1) := by decide +kernel
theorem dX2_advance_187 : decode cX2_advance 187 = .ok (.getfield 41, 3) := by decide +kernel
theorem dX2_advance_190 : decode cX2_advance 190 = .ok (.iconst 3, 1) := by decide +kernel
theorem dX2_advance_191 : decode cX2_advance 191 = .ok (.iadd, 1) := by decide +kernel
theorem dX2_advance_192 : decode cX2_advance 192 = .ok (.if_icmp .ge 32, 3) := by decide +kernel
theorem dX2_advance_195 : decode cX2_advance 195 = .ok (.aload_n 0, 1) := by decide +kernel
theorem dX2_advance_196 : decode cX2_advance 196 = .ok (.bipush 10, 2) := by decide +kernel
theorem dX2_advance_198 : decode cX2_advance 198 = .ok (.aload_n 0, 1) := by decide +kernel
theorem dX2_advance_199 : decode cX2_advance 199 = .ok (.getfield 95, 3) := by decide +kernel
theorem dX2_advance_202 : decode cX2_advance 202 = .ok (.imul, 1) := by decide +kernel
theorem dX2_advance_203 : decode cX2_advance 203 = .ok (.aload_n 0, 1) := by decide +kernel
theorem dX2_advance_204 : decode cX2_advance 204 = .ok (.getfield 9, 3) := by decide +kernel
theorem dX2_advance_207 : decode cX2_advance 207 = .ok (.iload_n 1, 1) := by decide +kernel
theorem dX2_advance_208 : decode cX2_advance 208 = .ok (.invokevirtual 132, 3) := by decide +kernel
theorem dX2_advance_211 : decode cX2_advance 211 = .ok (.iadd, 1) := by decide +kernel
theorem dX2_advance_212 : decode cX2_advance 212 = .ok (.bipush 48, 2) := by decide +kernel
theorem dX2_advance_214 : decode cX2_advance 214 = .ok (.isub, 1) := by decide +kernel
theorem dX2_advance_215 : decode cX2_advance 215 = .ok (.putfield 95, 3) := by decide +kernel
theorem dX2_advance_218 : decode cX2_advance 218 = .ok (.iinc 1 1, 3) := by decide +kernel
theorem dX2_advance_221 : decode cX2_advance 221 = .ok (.goto (-52), 3) := by decide +kernel
theorem dX2_advance_224 : decode cX2_advance 224 = .ok (.return_, 1) := by decide +kernel
theorem dX2_kindOf_0 : decode cX2_kindOf 0 = .ok (.iload_n 0, 1) := by decide +kernel
theorem dX2_kindOf_1 : decode cX2_kindOf 1 = .ok (.iconst (-1), 1) := by decide +kernel
theorem dX2_kindOf_2 : decode cX2_kindOf 2 = .ok (.if_icmp .ne 5, 3) := by decide +kernel
theorem dX2_kindOf_5 : decode cX2_kindOf 5 = .ok (.iconst 0, 1) := by decide +kernel
theorem dX2_kindOf_6 : decode cX2_kindOf 6 = .ok (.ireturn, 1) := by decide +kernel
theorem dX2_kindOf_7 : decode cX2_kindOf 7 = .ok (.iload_n 0, 1) := by decide +kernel
theorem dX2_kindOf_8 : decode cX2_kindOf 8 = .ok (.bipush 97, 2) := by decide +kernel
theorem dX2_kindOf_10 : decode cX2_kindOf 10 = .ok (.if_icmp .lt 11, 3) := by decide +kernel
theorem dX2_kindOf_13 : decode cX2_kindOf 13 = .ok (.iload_n 0, 1) := by decide +kernel
theorem dX2_kindOf_14 : decode cX2_kindOf 14 = .ok (.bipush 122, 2) := by decide +kernel
theorem dX2_kindOf_16 : decode cX2_kindOf 16 = .ok (.if_icmp .gt 5, 3) := by decide +kernel
theorem dX2_kindOf_19 : decode cX2_kindOf 19 = .ok (.iconst 1, 1) := by decide +kernel
theorem dX2_kindOf_20 : decode cX2_kindOf 20 = .ok (.ireturn, 1) := by decide +kernel
theorem dX2_kindOf_21 : decode cX2_kindOf 21 = .ok (.iload_n 0, 1) := by decide +kernel
theorem dX2_kindOf_22 : decode cX2_kindOf 22 = .ok (.bipush 48, 2) := by decide +kernel
theorem dX2_kindOf_24 : decode cX2_kindOf 24 = .ok (.if_icmp .lt 11, 3) := by decide +kernel
theorem dX2_kindOf_27 : decode cX2_kindOf 27 = .ok (.iload_n 0, 1) := by decide +kernel
theorem dX2_kindOf_28 : decode cX2_kindOf 28 = .ok (.bipush 57, 2) := by decide +kernel
theorem dX2_kindOf_30 : decode cX2_kindOf 30 = .ok (.if_icmp .gt 5, 3) := by decide +kernel
theorem dX2_kindOf_33 : decode cX2_kindOf 33 = .ok (.iconst 2, 1) := by decide +kernel
theorem dX2_kindOf_34 : decode cX2_kindOf 34 = .ok (.ireturn, 1) := by decide +kernel
theorem dX2_kindOf_35 : decode cX2_kindOf 35 = .ok (.iload_n 0, 1) := by decide +kernel
theorem dX2_kindOf_36 : decode cX2_kindOf 36 = .ok (.bipush 59, 2) := by decide +kernel
theorem dX2_kindOf_38 : decode cX2_kindOf 38 = .ok (.if_icmp .ne 5, 3) := by decide +kernel
theorem dX2_kindOf_41 : decode cX2_kindOf 41 = .ok (.iconst 3, 1) := by decide +kernel
theorem dX2_kindOf_42 : decode cX2_kindOf 42 = .ok (.ireturn, 1) := by decide +kernel
theorem dX2_kindOf_43 : decode cX2_kindOf 43 = .ok (.iload_n 0, 1) := by decide +kernel
theorem dX2_kindOf_44 : decode cX2_kindOf 44 = .ok (.bipush 32, 2) := by decide +kernel
theorem dX2_kindOf_46 : decode cX2_kindOf 46 = .ok (.if_icmp .eq 9, 3) := by decide +kernel
theorem dX2_kindOf_49 : decode cX2_kindOf 49 = .ok (.iload_n 0, 1) := by decide +kernel
theorem dX2_kindOf_50 : decode cX2_kindOf 50 = .ok (.bipush 10, 2) := by decide +kernel
theorem dX2_kindOf_52 : decode cX2_kindOf 52 = .ok (.if_icmp .ne 7, 3) := by decide +kernel
theorem dX2_kindOf_55 : decode cX2_kindOf 55 = .ok (.iconst 4, 1) := by decide +kernel
theorem dX2_kindOf_56 : decode cX2_kindOf 56 = .ok (.goto 4, 3) := by decide +kernel
theorem dX2_kindOf_59 : decode cX2_kindOf 59 = .ok (.iconst 5, 1) := by decide +kernel
theorem dX2_kindOf_60 : decode cX2_kindOf 60 = .ok (.ireturn, 1) := by decide +kernel
theorem dX3_init_0 : decode cX3_init 0 = .ok (.aload_n 0, 1) := by decide +kernel
theorem dX3_init_1 : decode cX3_init 1 = .ok (.invokespecial 3, 3) := by decide +kernel
theorem dX3_init_4 : decode cX3_init 4 = .ok (.aload_n 0, 1) := by decide +kernel
theorem dX3_init_5 : decode cX3_init 5 = .ok (.sipush 600, 3) := by decide +kernel
theorem dX3_init_8 : decode cX3_init 8 = .ok (.newarray .int, 2) := by decide +kernel
theorem dX3_init_10 : decode cX3_init 10 = .ok (.putfield 9, 3) := by decide +kernel
theorem dX3_init_13 : decode cX3_init 13 = .ok (.return_, 1) := by decide +kernel
theorem dX3_hasSpace_0 : decode cX3_hasSpace 0 = .ok (.aload_n 0, 1) := by decide +kernel
theorem dX3_hasSpace_1 : decode cX3_hasSpace 1 = .ok (.getfield 15, 3) := by decide +kernel
theorem dX3_hasSpace_4 : decode cX3_hasSpace 4 = .ok (.bipush 20, 2) := by decide +kernel
theorem dX3_hasSpace_6 : decode cX3_hasSpace 6 = .ok (.iadd, 1) := by decide +kernel
theorem dX3_hasSpace_7 : decode cX3_hasSpace 7 = .ok (.sipush 600, 3) := by decide +kernel
theorem dX3_hasSpace_10 : decode cX3_hasSpace 10 = .ok (.if_icmp .gt 7, 3) := by decide +kernel
theorem dX3_hasSpace_13 : decode cX3_hasSpace 13 = .ok (.iconst 1, 1) := by decide +kernel
theorem dX3_hasSpace_14 : decode cX3_hasSpace 14 = .ok (.goto 4, 3) := by decide +kernel
theorem dX3_hasSpace_17 : decode cX3_hasSpace 17 = .ok (.iconst 0, 1) := by decide +kernel
theorem dX3_hasSpace_18 : decode cX3_hasSpace 18 = .ok (.ireturn, 1) := by decide +kernel
theorem dX3_append_0 : decode cX3_append 0 = .ok (.bipush 24, 2) := by decide +kernel
theorem dX3_append_2 : decode cX3_append 2 = .ok (.istore_n 2, 1) := by decide +kernel
theorem dX3_append_3 : decode cX3_append 3 = .ok (.iload_n 2, 1) := by decide +kernel
theorem dX3_append_4 : decode cX3_append 4 = .ok (.ifCond .lt 45, 3) := by decide +kernel
theorem dX3_append_7 : decode cX3_append 7 = .ok (.aload_n 0, 1) := by decide +kernel
theorem dX3_append_8 : decode cX3_append 8 = .ok (.getfield 15, 3) := by decide +kernel
theorem dX3_append_11 : decode cX3_append 11 = .ok (.sipush 600, 3) := by decide +kernel
theorem dX3_append_14 : decode cX3_append 14 = .ok (.if_icmp .ge 35, 3) := by decide +kernel
theorem dX3_append_17 : decode cX3_append 17 = .ok (.aload_n 0, 1) := by decide +kernel
theorem dX3_append_18 : decode cX3_append 18 = .ok (.getfield 9, 3) := by decide +kernel
theorem dX3_append_21 : decode cX3_append 21 = .ok (.aload_n 0, 1) := by decide +kernel
theorem dX3_append_22 : decode cX3_append 22 = .ok (.getfield 15, 3) := by decide +kernel
theorem dX3_append_25 : decode cX3_append 25 = .ok (.iload_n 1, 1) := by decide +kernel
theorem dX3_append_26 : decode cX3_append 26 = .ok (.iload_n 2, 1) := by decide +kernel
theorem dX3_append_27 : decode cX3_append 27 = .ok (.ishr, 1) := by decide +kernel
theorem dX3_append_28 : decode cX3_append 28 = .ok (.sipush 255, 3) := by decide +kernel
theorem dX3_append_31 : decode cX3_append 31 = .ok (.iand, 1) := by decide +kernel
theorem dX3_append_32 : decode cX3_append 32 = .ok (.iastore, 1) := by decide +kernel
theorem dX3_append_33 : decode cX3_append 33 = .ok (.aload_n 0, 1) := by decide +kernel
theorem dX3_append_34 : decode cX3_append 34 = .ok (.dup, 1) := by decide +kernel
theorem dX3_append_35 : decode cX3_append 35 = .ok (.getfield 15, 3) := by decide +kernel
theorem dX3_append_38 : decode cX3_append 38 = .ok (.iconst 1, 1) := by decide +kernel
theorem dX3_append_39 : decode cX3_append 39 = .ok (.iadd, 1) := by decide +kernel
theorem dX3_append_40 : decode cX3_append 40 = .ok (.putfield 15, 3) := by decide +kernel
theorem dX3_append_43 : decode cX3_append 43 = .ok (.iinc 2 (-8), 3) := by decide +kernel
theorem dX3_append_46 : decode cX3_append 46 = .ok (.goto (-43), 3) := by decide +kernel
theorem dX3_append_49 : decode cX3_append 49 = .ok (.return_, 1) := by decide +kernel
theorem dX3_size_0 : decode cX3_size 0 = .ok (.aload_n 0, 1) := by decide +kernel
theorem dX3_size_1 : decode cX3_size 1 = .ok (.getfield 15, 3) := by decide +kernel
theorem dX3_size_4 : decode cX3_size 4 = .ok (.ireturn, 1) := by decide +kernel
theorem dX3_cutTo_0 : decode cX3_cutTo 0 = .ok (.aload_n 0, 1) := by decide +kernel
theorem dX3_cutTo_1 : decode cX3_cutTo 1 = .ok (.iconst 0, 1) := by decide +kernel
theorem dX3_cutTo_2 : decode cX3_cutTo 2 = .ok (.iload_n 1, 1) := by decide +kernel
theorem dX3_cutTo_3 : decode cX3_cutTo 3 = .ok (.aload_n 0, 1) := by decide +kernel
theorem dX3_cutTo_4 : decode cX3_cutTo 4 = .ok (.getfield 15, 3) := by decide +kernel
theorem dX3_cutTo_7 : decode cX3_cutTo 7 = .ok (.invokestatic 19, 3) := by decide +kernel
theorem dX3_cutTo_10 : decode cX3_cutTo 10 = .ok (.invokestatic 25, 3) := by decide +kernel
theorem dX3_cutTo_13 : decode cX3_cutTo 13 = .ok (.putfield 15, 3) := by decide +kernel
theorem dX3_cutTo_16 : decode cX3_cutTo 16 = .ok (.return_, 1) := by decide +kernel
theorem dX3_at_0 : decode cX3_at 0 = .ok (.iload_n 1, 1) := by decide +kernel
theorem dX3_at_1 : decode cX3_at 1 = .ok (.ifCond .lt 20, 3) := by decide +kernel
theorem dX3_at_4 : decode cX3_at 4 = .ok (.iload_n 1, 1) := by decide +kernel
theorem dX3_at_5 : decode cX3_at 5 = .ok (.aload_n 0, 1) := by decide +kernel
theorem dX3_at_6 : decode cX3_at 6 = .ok (.getfield 15, 3) := by decide +kernel
theorem dX3_at_9 : decode cX3_at 9 = .ok (.if_icmp .ge 12, 3) := by decide +kernel
theorem dX3_at_12 : decode cX3_at 12 = .ok (.aload_n 0, 1) := by decide +kernel
theorem dX3_at_13 : decode cX3_at 13 = .ok (.getfield 9, 3) := by decide +kernel
theorem dX3_at_16 : decode cX3_at 16 = .ok (.iload_n 1, 1) := by decide +kernel
theorem dX3_at_17 : decode cX3_at 17 = .ok (.iaload, 1) := by decide +kernel
theorem dX3_at_18 : decode cX3_at 18 = .ok (.goto 4, 3) := by decide +kernel
theorem dX3_at_21 : decode cX3_at 21 = .ok (.iconst (-1), 1) := by decide +kernel
theorem dX3_at_22 : decode cX3_at 22 = .ok (.ireturn, 1) := by decide +kernel
set_option maxRecDepth 20000 in
theorem ggX4_init_X4_setAsAtFirst : GoodIn wsX4_init wsX4_setAsAtFirst := goodIn_r _ [12, 5, 6, 7, 13, 14, 15, 16, 17, 18, 19, 20, 21, 22, 23] (by decide +kernel) (by decide +kernel)
set_option maxRecDepth 20000 in
theorem gX4_init_X4_setAsAtFirst : GoodIn wsX4_init (wsV RX4 21 RX4 yX4_setAsAtFirst wsX4_setAsAtFirst) := goodIn_app (goodIn_of _ (by decide +kernel)) ggX4_init_X4_setAsAtFirst
theorem dX4_init_0 : decode cX4_init 0 = .ok (.aload_n 0, 1) := by decide +kernel
theorem dX4_init_1 : decode cX4_init 1 = .ok (.invokespecial 3, 3) := by decide +kernel
theorem dX4_init_4 : decode cX4_init 4 = .ok (.aload_n 0, 1) := by decide +kernel
theorem dX4_init_5 : decode cX4_init 5 = .ok (.iconst 5, 1) := by decide +kernel
theorem dX4_init_6 : decode cX4_init 6 = .ok (.newarray .int, 2) := by decide +kernel
theorem dX4_init_8 : decode cX4_init 8 = .ok (.putfield 9, 3) := by decide +kernel
theorem dX4_init_11 : decode cX4_init 11 = .ok (.aload_n 0, 1) := by decide +kernel
theorem dX4_init_12 : decode cX4_init 12 = .ok (.bipush 7, 2) := by decide +kernel
theorem dX4_init_14 : decode cX4_init 14 = .ok (.newarray .int, 2) := by decide +kernel
theorem dX4_init_16 : decode cX4_init 16 = .ok (.putfield 15, 3) := by decide +kernel
theorem dX4_init_19 : decode cX4_init 19 = .ok (.aload_n 0, 1) := by decide +kernel
theorem dX4_init_20 : decode cX4_init 20 = .ok (.bipush 25, 2) := by decide +kernel
theorem dX4_init_22 : decode cX4_init 22 = .ok (.newarray .int, 2) := by decide +kernel
theorem dX4_init_24 : decode cX4_init 24 = .ok (.putfield 18, 3) := by decide +kernel
theorem dX4_init_27 : decode cX4_init 27 = .ok (.aload_n 0, 1) := by decide +kernel
theorem dX4_init_28 : decode cX4_init 28 = .ok (.invokevirtual 21, 3) := by decide +kernel
theorem dX4_init_31 : decode cX4_init 31 = .ok (.return_, 1) := by decide +kernel
theorem dX4_setAsAtFirst_0 : decode cX4_setAsAtFirst 0 = .ok (.iconst 0, 1) := by decide +kernel
theorem dX4_setAsAtFirst_1 : decode cX4_setAsAtFirst 1 = .ok (.istore_n 1, 1) := by decide +kernel
theorem dX4_setAsAtFirst_2 : decode cX4_setAsAtFirst 2 = .ok (.iload_n 1, 1) := by decide +kernel
theorem dX4_setAsAtFirst_3 : decode cX4_setAsAtFirst 3 = .ok (.iconst 5, 1) := by decide +kernel
theorem dX4_setAsAtFirst_4 : decode cX4_setAsAtFirst 4 = .ok (.if_icmp .ge 16, 3) := by decide +kernel
theorem dX4_setAsAtFirst_7 : decode cX4_setAsAtFirst 7 = .ok (.aload_n 0, 1) := by decide +kernel
theorem dX4_setAsAtFirst_8 : decode cX4_setAsAtFirst 8 = .ok (.getfield 9, 3) := by decide +kernel
theorem dX4_setAsAtFirst_11 : decode cX4_setAsAtFirst 11 = .ok (.iload_n 1, 1) := by decide +kernel
theorem dX4_setAsAtFirst_12 : decode cX4_setAsAtFirst 12 = .ok (.iconst 0, 1) := by decide +kernel
theorem dX4_setAsAtFirst_13 : decode cX4_setAsAtFirst 13 = .ok (.iastore, 1) := by decide +kernel
theorem dX4_setAsAtFirst_14 : decode cX4_setAsAtFirst 14 = .ok (.iinc 1 1, 3) := by decide +kernel
theorem dX4_setAsAtFirst_17 : decode cX4_setAsAtFirst 17 = .ok (.goto (-15), 3) := by decide +kernel
theorem dX4_setAsAtFirst_20 : decode cX4_setAsAtFirst 20 = .ok (.iconst 0, 1) := by decide +kernel
theorem dX4_setAsAtFirst_21 : decode cX4_setAsAtFirst 21 = .ok (.istore_n 1, 1) := by decide +kernel
theorem dX4_setAsAtFirst_22 : decode cX4_setAsAtFirst 22 = .ok (.iload_n 1, 1) := by decide +kernel
theorem dX4_setAsAtFirst_23 : decode cX4_setAsAtFirst 23 = .ok (.bipush 7, 2) := by decide +kernel
theorem dX4_setAsAtFirst_25 : decode cX4_setAsAtFirst 25 = .ok (.if_icmp .ge 17, 3) := by decide +kernel
theorem dX4_setAsAtFirst_28 : decode cX4_setAsAtFirst 28 = .ok (.aload_n 0, 1) := by decide +kernel
theorem dX4_setAsAtFirst_29 : decode cX4_setAsAtFirst 29 = .ok (.getfield 15, 3) := by decide +kernel
theorem dX4_setAsAtFirst_32 : decode cX4_setAsAtFirst 32 = .ok (.iload_n 1, 1) := by decide +kernel
theorem dX4_setAsAtFirst_33 : decode cX4_setAsAtFirst 33 = .ok (.bipush 10, 2) := by decide +kernel
theorem dX4_setAsAtFirst_35 : decode cX4_setAsAtFirst 35 = .ok (.iastore, 1) := by decide +kernel
theorem dX4_setAsAtFirst_36 : decode cX4_setAsAtFirst 36 = .ok (.iinc 1 1, 3) := by decide +kernel
theorem dX4_setAsAtFirst_39 : decode cX4_setAsAtFirst 39 = .ok (.goto (-17), 3) := by decide +kernel
theorem dX4_setAsAtFirst_42 : decode cX4_setAsAtFirst 42 = .ok (.iconst 0, 1) := by decide +kernel
theorem dX4_setAsAtFirst_43 : decode cX4_setAsAtFirst 43 = .ok (.istore_n 1, 1) := by decide +kernel
theorem dX4_setAsAtFirst_44 : decode cX4_setAsAtFirst 44 = .ok (.iload_n 1, 1) := by decide +kernel
theorem dX4_setAsAtFirst_45 : decode cX4_setAsAtFirst 45 = .ok (.bipush 25, 2) := by decide +kernel
theorem dX4_setAsAtFirst_47 : decode cX4_setAsAtFirst 47 = .ok (.if_icmp .ge 16, 3) := by decide +kernel
theorem dX4_setAsAtFirst_50 : decode cX4_setAsAtFirst 50 = .ok (.aload_n 0, 1) := by decide +kernel
theorem dX4_setAsAtFirst_51 : decode cX4_setAsAtFirst 51 = .ok (.getfield 18, 3) := by decide +kernel
theorem dX4_setAsAtFirst_54 : decode cX4_setAsAtFirst 54 = .ok (.iload_n 1, 1) := by decide +kernel
theorem dX4_setAsAtFirst_55 : decode cX4_setAsAtFirst 55 = .ok (.iconst (-1), 1) := by decide +kernel
theorem dX4_setAsAtFirst_56 : decode cX4_setAsAtFirst 56 = .ok (.iastore, 1) := by decide +kernel
theorem dX4_setAsAtFirst_57 : decode cX4_setAsAtFirst 57 = .ok (.iinc 1 1, 3) := by decide +kernel
theorem dX4_setAsAtFirst_60 : decode cX4_setAsAtFirst 60 = .ok (.goto (-16), 3) := by decide +kernel
theorem dX4_setAsAtFirst_63 : decode cX4_setAsAtFirst 63 = .ok (.aload_n 0, 1) := by decide +kernel
theorem dX4_setAsAtFirst_64 : decode cX4_setAsAtFirst 64 = .ok (.iconst 0, 1) := by decide +kernel
theorem dX4_setAsAtFirst_65 : decode cX4_setAsAtFirst 65 = .ok (.putfield 24, 3) := by decide +kernel
theorem dX4_setAsAtFirst_68 : decode cX4_setAsAtFirst 68 = .ok (.aload_n 0, 1) := by decide +kernel
theorem dX4_setAsAtFirst_69 : decode cX4_setAsAtFirst 69 = .ok (.iconst 0, 1) := by decide +kernel
theorem dX4_setAsAtFirst_70 : decode cX4_setAsAtFirst 70 = .ok (.putfield 28, 3) := by decide +kernel
theorem dX4_setAsAtFirst_73 : decode cX4_setAsAtFirst 73 = .ok (.aload_n 0, 1) := by decide +kernel
theorem dX4_setAsAtFirst_74 : decode cX4_setAsAtFirst 74 = .ok (.iconst 0, 1) := by decide +kernel
theorem dX4_setAsAtFirst_75 : decode cX4_setAsAtFirst 75 = .ok (.putfield 31, 3) := by decide +kernel
theorem dX4_setAsAtFirst_78 : decode cX4_setAsAtFirst 78 = .ok (.aload_n 0, 1) := by decide +kernel
theorem dX4_setAsAtFirst_79 : decode cX4_setAsAtFirst 79 = .ok (.iconst 0, 1) := by decide +kernel
theorem dX4_setAsAtFirst_80 : decode cX4_setAsAtFirst 80 = .ok (.putfield 34, 3) := by decide +kernel
theorem dX4_setAsAtFirst_83 : decode cX4_setAsAtFirst 83 = .ok (.return_, 1) := by decide +kernel
theorem dX4_copyFrom_0 : decode cX4_copyFrom 0 = .ok (.aload_n 1, 1) := by decide +kernel
theorem dX4_copyFrom_1 : decode cX4_copyFrom 1 = .ok (.getfield 9, 3) := by decide +kernel
theorem dX4_copyFrom_4 : decode cX4_copyFrom 4 = .ok (.iconst 0, 1) := by decide +kernel
theorem dX4_copyFrom_5 : decode cX4_copyFrom 5 = .ok (.aload_n 0, 1) := by decide +kernel
theorem dX4_copyFrom_6 : decode cX4_copyFrom 6 = .ok (.getfield 9, 3) := by decide +kernel
theorem dX4_copyFrom_9 : decode cX4_copyFrom 9 = .ok (.iconst 0, 1) := by decide +kernel
theorem dX4_copyFrom_10 : decode cX4_copyFrom 10 = .ok (.iconst 5, 1) := by decide +kernel
theorem dX4_copyFrom_11 : decode cX4_copyFrom 11 = .ok (.invokestatic 37, 3) := by decide +kernel
theorem dX4_copyFrom_14 : decode cX4_copyFrom 14 = .ok (.aload_n 1, 1) := by decide +kernel
theorem dX4_copyFrom_15 : decode cX4_copyFrom 15 = .ok (.getfield 15, 3) := by decide +kernel
theorem dX4_copyFrom_18 : decode cX4_copyFrom 18 = .ok (.iconst 0, 1) := by decide +kernel
theorem dX4_copyFrom_19 : decode cX4_copyFrom 19 = .ok (.aload_n 0, 1) := by decide +kernel
theorem dX4_copyFrom_20 : decode cX4_copyFrom 20 = .ok (.getfield 15, 3) := by decide +kernel
theorem dX4_copyFrom_23 : decode cX4_copyFrom 23 = .ok (.iconst 0, 1) := by decide +kernel
theorem dX4_copyFrom_24 : decode cX4_copyFrom 24 = .ok (.bipush 7, 2) := by decide +kernel
theorem dX4_copyFrom_26 : decode cX4_copyFrom 26 = .ok (.invokestatic 37, 3) := by decide +kernel
theorem dX4_copyFrom_29 : decode cX4_copyFrom 29 = .ok (.aload_n 1, 1) := by decide +kernel
theorem dX4_copyFrom_30 : decode cX4_copyFrom 30 = .ok (.getfield 18, 3) := by decide +kernel
theorem dX4_copyFrom_33 : decode cX4_copyFrom 33 = .ok (.iconst 0, 1) := by decide +kernel
theorem dX4_copyFrom_34 : decode cX4_copyFrom 34 = .ok (.aload_n 0, 1) := by decide +kernel
theorem dX4_copyFrom_35 : decode cX4_copyFrom 35 = .ok (.getfield 18, 3) := by decide +kernel
theorem dX4_copyFrom_38 : decode cX4_copyFrom 38 = .ok (.iconst 0, 1) := by decide +kernel
theorem dX4_copyFrom_39 : decode cX4_copyFrom 39 = .ok (.bipush 25, 2) := by decide +kernel
theorem dX4_copyFrom_41 : decode cX4_copyFrom 41 = .ok (.invokestatic 37, 3) := by decide +kernel
theorem dX4_copyFrom_44 : decode cX4_copyFrom 44 = .ok (.aload_n 0, 1) := by decide +kernel
theorem dX4_copyFrom_45 : decode cX4_copyFrom 45 = .ok (.aload_n 1, 1) := by decide +kernel
theorem dX4_copyFrom_46 : decode cX4_copyFrom 46 = .ok (.getfield 24, 3) := by decide +kernel
theorem dX4_copyFrom_49 : decode cX4_copyFrom 49 = .ok (.putfield 24, 3) := by decide +kernel
theorem dX4_copyFrom_52 : decode cX4_copyFrom 52 = .ok (.aload_n 0, 1) := by decide +kernel
theorem dX4_copyFrom_53 : decode cX4_copyFrom 53 = .ok (.aload_n 1, 1) := by decide +kernel
theorem dX4_copyFrom_54 : decode cX4_copyFrom 54 = .ok (.getfield 28, 3) := by decide +kernel
theorem dX4_copyFrom_57 : decode cX4_copyFrom 57 = .ok (.putfield 28, 3) := by decide +kernel
theorem dX4_copyFrom_60 : decode cX4_copyFrom 60 = .ok (.aload_n 0, 1) := by decide +kernel
theorem dX4_copyFrom_61 : decode cX4_copyFrom 61 = .ok (.aload_n 1, 1) := by decide +kernel
theorem dX4_copyFrom_62 : decode cX4_copyFrom 62 = .ok (.getfield 31, 3) := by decide +kernel
theorem dX4_copyFrom_65 : decode cX4_copyFrom 65 = .ok (.putfield 31, 3) := by decide +kernel
theorem dX4_copyFrom_68 : decode cX4_copyFrom 68 = .ok (.aload_n 0, 1) := by decide +kernel
theorem dX4_copyFrom_69 : decode cX4_copyFrom 69 = .ok (.aload_n 1, 1) := by decide +kernel
theorem dX4_copyFrom_70 : decode cX4_copyFrom 70 = .ok (.getfield 34, 3) := by decide +kernel
theorem dX4_copyFrom_73 : decode cX4_copyFrom 73 = .ok (.putfield 34, 3) := by decide +kernel
theorem dX4_copyFrom_76 : decode cX4_copyFrom 76 = .ok (.return_, 1) := by decide +kernel
theorem dX4_giveWays_0 : decode cX4_giveWays 0 = .ok (.aload_n 0, 1) := by decide +kernel
theorem dX4_giveWays_1 : decode cX4_giveWays 1 = .ok (.getfield 9, 3) := by decide +kernel
theorem dX4_giveWays_4 : decode cX4_giveWays 4 = .ok (.iload_n 1, 1) := by decide +kernel
theorem dX4_giveWays_5 : decode cX4_giveWays 5 = .ok (.iload_n 2, 1) := by decide +kernel
theorem dX4_giveWays_6 : decode cX4_giveWays 6 = .ok (.iastore, 1) := by decide +kernel
theorem dX4_giveWays_7 : decode cX4_giveWays 7 = .ok (.return_, 1) := by decide +kernel
theorem dX4_waysGiven_0 : decode cX4_waysGiven 0 = .ok (.aload_n 0, 1) := by decide +kernel
theorem dX4_waysGiven_1 : decode cX4_waysGiven 1 = .ok (.getfield 9, 3) := by decide +kernel
theorem dX4_waysGiven_4 : decode cX4_waysGiven 4 = .ok (.iload_n 1, 1) := by decide +kernel
theorem dX4_waysGiven_5 : decode cX4_waysGiven 5 = .ok (.iaload, 1) := by decide +kernel
theorem dX4_waysGiven_6 : decode cX4_waysGiven 6 = .ok (.ireturn, 1) := by decide +kernel
theorem dX4_waysUnder_0 : decode cX4_waysUnder 0 = .ok (.aload_n 0, 1) := by decide +kernel
theorem dX4_waysUnder_1 : decode cX4_waysUnder 1 = .ok (.getfield 9, 3) := by decide +kernel
theorem dX4_waysUnder_4 : decode cX4_waysUnder 4 = .ok (.iload_n 2, 1) := by decide +kernel
theorem dX4_waysUnder_5 : decode cX4_waysUnder 5 = .ok (.iaload, 1) := by decide +kernel
theorem dX4_waysUnder_6 : decode cX4_waysUnder 6 = .ok (.iload_n 1, 1) := by decide +kernel
theorem dX4_waysUnder_7 : decode cX4_waysUnder 7 = .ok (.iconst 3, 1) := by decide +kernel
theorem dX4_waysUnder_8 : decode cX4_waysUnder 8 = .ok (.ishr, 1) := by decide +kernel
theorem dX4_waysUnder_9 : decode cX4_waysUnder 9 = .ok (.iconst (-1), 1) := by decide +kernel
theorem dX4_waysUnder_10 : decode cX4_waysUnder 10 = .ok (.ixor, 1) := by decide +kernel
theorem dX4_waysUnder_11 : decode cX4_waysUnder 11 = .ok (.iand, 1) := by decide +kernel
theorem dX4_waysUnder_12 : decode cX4_waysUnder 12 = .ok (.ireturn, 1) := by decide +kernel
set_option maxRecDepth 20000 in
theorem ggX4_bestUnder_X4_waysUnder : GoodIn wsX4_bestUnder wsX4_waysUnder := goodIn_r _ [5, 6, 10, 11, 12, 13, 14, 15, 16] (by decide +kernel) (by decide +kernel)
set_option maxRecDepth 20000 in
theorem gX4_bestUnder_X4_waysUnder : GoodIn wsX4_bestUnder (wsV RX4 43 RX4 yX4_waysUnder wsX4_waysUnder) := goodIn_app (goodIn_of _ (by decide +kernel)) ggX4_bestUnder_X4_waysUnder
set_option maxRecDepth 20000 in
theorem ggX4_bestUnder_X6_greatestOf : GoodIn wsX4_bestUnder wsX6_greatestOf := goodIn_r _ [9] (by decide +kernel) (by decide +kernel)
set_option maxRecDepth 20000 in
theorem gX4_bestUnder_X6_greatestOf_n47 : GoodIn wsX4_bestUnder (wsX6_greatestOf) := ggX4_bestUnder_X6_greatestOf
theorem dX4_bestUnder_0 : decode cX4_bestUnder 0 = .ok (.aload_n 0, 1) := by decide +kernel
theorem dX4_bestUnder_1 : decode cX4_bestUnder 1 = .ok (.iload_n 1, 1) := by decide +kernel
theorem dX4_bestUnder_2 : decode cX4_bestUnder 2 = .ok (.iload_n 2, 1) := by decide +kernel
theorem dX4_bestUnder_3 : decode cX4_bestUnder 3 = .ok (.invokevirtual 43, 3) := by decide +kernel
theorem dX4_bestUnder_6 : decode cX4_bestUnder 6 = .ok (.aload_n 0, 1) := by decide +kernel
theorem dX4_bestUnder_7 : decode cX4_bestUnder 7 = .ok (.iload_n 1, 1) := by decide +kernel
theorem dX4_bestUnder_8 : decode cX4_bestUnder 8 = .ok (.iload_n 3, 1) := by decide +kernel
theorem dX4_bestUnder_9 : decode cX4_bestUnder 9 = .ok (.invokevirtual 43, 3) := by decide +kernel
theorem dX4_bestUnder_12 : decode cX4_bestUnder 12 = .ok (.iand, 1) := by decide +kernel
theorem dX4_bestUnder_13 : decode cX4_bestUnder 13 = .ok (.invokestatic 47, 3) := by decide +kernel
theorem dX4_bestUnder_16 : decode cX4_bestUnder 16 = .ok (.ireturn, 1) := by decide +kernel
theorem dX4_breakWays_0 : decode cX4_breakWays 0 = .ok (.aload_n 0, 1) := by decide +kernel
theorem dX4_breakWays_1 : decode cX4_breakWays 1 = .ok (.iload_n 1, 1) := by decide +kernel
theorem dX4_breakWays_2 : decode cX4_breakWays 2 = .ok (.putfield 24, 3) := by decide +kernel
theorem dX4_breakWays_5 : decode cX4_breakWays 5 = .ok (.return_, 1) := by decide +kernel
theorem dX4_waysBroken_0 : decode cX4_waysBroken 0 = .ok (.aload_n 0, 1) := by decide +kernel
theorem dX4_waysBroken_1 : decode cX4_waysBroken 1 = .ok (.getfield 24, 3) := by decide +kernel
theorem dX4_waysBroken_4 : decode cX4_waysBroken 4 = .ok (.ireturn, 1) := by decide +kernel
theorem dX4_allowTries_0 : decode cX4_allowTries 0 = .ok (.aload_n 0, 1) := by decide +kernel
theorem dX4_allowTries_1 : decode cX4_allowTries 1 = .ok (.iload_n 1, 1) := by decide +kernel
theorem dX4_allowTries_2 : decode cX4_allowTries 2 = .ok (.putfield 28, 3) := by decide +kernel
theorem dX4_allowTries_5 : decode cX4_allowTries 5 = .ok (.return_, 1) := by decide +kernel
theorem dX4_triesAllowed_0 : decode cX4_triesAllowed 0 = .ok (.aload_n 0, 1) := by decide +kernel
theorem dX4_triesAllowed_1 : decode cX4_triesAllowed 1 = .ok (.getfield 28, 3) := by decide +kernel
theorem dX4_triesAllowed_4 : decode cX4_triesAllowed 4 = .ok (.ireturn, 1) := by decide +kernel
theorem dX4_switchMend_0 : decode cX4_switchMend 0 = .ok (.aload_n 0, 1) := by decide +kernel
theorem dX4_switchMend_1 : decode cX4_switchMend 1 = .ok (.iload_n 2, 1) := by decide +kernel
theorem dX4_switchMend_2 : decode cX4_switchMend 2 = .ok (.ifCond .eq 14, 3) := by decide +kernel
theorem dX4_switchMend_5 : decode cX4_switchMend 5 = .ok (.aload_n 0, 1) := by decide +kernel
theorem dX4_switchMend_6 : decode cX4_switchMend 6 = .ok (.getfield 31, 3) := by decide +kernel
theorem dX4_switchMend_9 : decode cX4_switchMend 9 = .ok (.iconst 1, 1) := by decide +kernel
theorem dX4_switchMend_10 : decode cX4_switchMend 10 = .ok (.iload_n 1, 1) := by decide +kernel
theorem dX4_switchMend_11 : decode cX4_switchMend 11 = .ok (.ishl, 1) := by decide +kernel
theorem dX4_switchMend_12 : decode cX4_switchMend 12 = .ok (.ior, 1) := by decide +kernel
theorem dX4_switchMend_13 : decode cX4_switchMend 13 = .ok (.goto 13, 3) := by decide +kernel
theorem dX4_switchMend_16 : decode cX4_switchMend 16 = .ok (.aload_n 0, 1) := by decide +kernel
theorem dX4_switchMend_17 : decode cX4_switchMend 17 = .ok (.getfield 31, 3) := by decide +kernel
theorem dX4_switchMend_20 : decode cX4_switchMend 20 = .ok (.iconst 1, 1) := by decide +kernel
theorem dX4_switchMend_21 : decode cX4_switchMend 21 = .ok (.iload_n 1, 1) := by decide +kernel
theorem dX4_switchMend_22 : decode cX4_switchMend 22 = .ok (.ishl, 1) := by decide +kernel
theorem dX4_switchMend_23 : decode cX4_switchMend 23 = .ok (.iconst (-1), 1) := by decide +kernel
theorem dX4_switchMend_24 : decode cX4_switchMend 24 = .ok (.ixor, 1) := by decide +kernel
theorem dX4_switchMend_25 : decode cX4_switchMend 25 = .ok (.iand, 1) := by decide +kernel
theorem dX4_switchMend_26 : decode cX4_switchMend 26 = .ok (.putfield 31, 3) := by decide +kernel
theorem dX4_switchMend_29 : decode cX4_switchMend 29 = .ok (.return_, 1) := by decide +kernel
set_option maxRecDepth 20000 in
theorem ggX4_isOn_X6_holds : GoodIn wsX4_isOn wsX6_holds := goodIn_r _ [4] (by decide +kernel) (by decide +kernel)
set_option maxRecDepth 20000 in
theorem gX4_isOn_X6_holds_n51 : GoodIn wsX4_isOn (wsX6_holds) := ggX4_isOn_X6_holds
theorem dX4_isOn_0 : decode cX4_isOn 0 = .ok (.aload_n 0, 1) := by decide +kernel
theorem dX4_isOn_1 : decode cX4_isOn 1 = .ok (.getfield 31, 3) := by decide +kernel
theorem dX4_isOn_4 : decode cX4_isOn 4 = .ok (.iload_n 1, 1) := by decide +kernel
theorem dX4_isOn_5 : decode cX4_isOn 5 = .ok (.invokestatic 51, 3) := by decide +kernel
theorem dX4_isOn_8 : decode cX4_isOn 8 = .ok (.ireturn, 1) := by decide +kernel
theorem dX4_mendsOn_0 : decode cX4_mendsOn 0 = .ok (.aload_n 0, 1) := by decide +kernel
theorem dX4_mendsOn_1 : decode cX4_mendsOn 1 = .ok (.getfield 31, 3) := by decide +kernel
theorem dX4_mendsOn_4 : decode cX4_mendsOn 4 = .ok (.ireturn, 1) := by decide +kernel
theorem dX4_priceMend_0 : decode cX4_priceMend 0 = .ok (.aload_n 0, 1) := by decide +kernel
theorem dX4_priceMend_1 : decode cX4_priceMend 1 = .ok (.getfield 15, 3) := by decide +kernel
theorem dX4_priceMend_4 : decode cX4_priceMend 4 = .ok (.iload_n 1, 1) := by decide +kernel
theorem dX4_priceMend_5 : decode cX4_priceMend 5 = .ok (.iload_n 2, 1) := by decide +kernel
theorem dX4_priceMend_6 : decode cX4_priceMend 6 = .ok (.iastore, 1) := by decide +kernel
theorem dX4_priceMend_7 : decode cX4_priceMend 7 = .ok (.return_, 1) := by decide +kernel
theorem dX4_priceOf_0 : decode cX4_priceOf 0 = .ok (.aload_n 0, 1) := by decide +kernel
theorem dX4_priceOf_1 : decode cX4_priceOf 1 = .ok (.getfield 15, 3) := by decide +kernel
theorem dX4_priceOf_4 : decode cX4_priceOf 4 = .ok (.iload_n 1, 1) := by decide +kernel
theorem dX4_priceOf_5 : decode cX4_priceOf 5 = .ok (.iaload, 1) := by decide +kernel
theorem dX4_priceOf_6 : decode cX4_priceOf 6 = .ok (.ireturn, 1) := by decide +kernel
set_option maxRecDepth 20000 in
theorem ggX4_demandTalk_X4_pairNumber : GoodIn wsX4_demandTalk wsX4_pairNumber := goodIn_r _ [12] (by decide +kernel) (by decide +kernel)
set_option maxRecDepth 20000 in
theorem gX4_demandTalk_X4_pairNumber : GoodIn wsX4_demandTalk (va_wsS RX4 63 yX4_pairNumber wsX4_pairNumber) := goodIn_app (goodIn_of _ (by decide +kernel)) ggX4_demandTalk_X4_pairNumber
theorem dX4_demandTalk_0 : decode cX4_demandTalk 0 = .ok (.iconst 1, 1) := by decide +kernel
theorem dX4_demandTalk_1 : decode cX4_demandTalk 1 = .ok (.iload_n 1, 1) := by decide +kernel
theorem dX4_demandTalk_2 : decode cX4_demandTalk 2 = .ok (.iload_n 2, 1) := by decide +kernel
theorem dX4_demandTalk_3 : decode cX4_demandTalk 3 = .ok (.invokestatic 55, 3) := by decide +kernel
theorem dX4_demandTalk_6 : decode cX4_demandTalk 6 = .ok (.iload_n 1, 1) := by decide +kernel
theorem dX4_demandTalk_7 : decode cX4_demandTalk 7 = .ok (.iload_n 2, 1) := by decide +kernel
theorem dX4_demandTalk_8 : decode cX4_demandTalk 8 = .ok (.invokestatic 60, 3) := by decide +kernel
theorem dX4_demandTalk_11 : decode cX4_demandTalk 11 = .ok (.invokestatic 63, 3) := by decide +kernel
theorem dX4_demandTalk_14 : decode cX4_demandTalk 14 = .ok (.ishl, 1) := by decide +kernel
theorem dX4_demandTalk_15 : decode cX4_demandTalk 15 = .ok (.istore 4, 2) := by decide +kernel
theorem dX4_demandTalk_17 : decode cX4_demandTalk 17 = .ok (.aload_n 0, 1) := by decide +kernel
theorem dX4_demandTalk_18 : decode cX4_demandTalk 18 = .ok (.iload_n 3, 1) := by decide +kernel
theorem dX4_demandTalk_19 : decode cX4_demandTalk 19 = .ok (.ifCond .eq 13, 3) := by decide +kernel
theorem dX4_demandTalk_22 : decode cX4_demandTalk 22 = .ok (.aload_n 0, 1) := by decide +kernel
theorem dX4_demandTalk_23 : decode cX4_demandTalk 23 = .ok (.getfield 34, 3) := by decide +kernel
theorem dX4_demandTalk_26 : decode cX4_demandTalk 26 = .ok (.iload 4, 2) := by decide +kernel
theorem dX4_demandTalk_28 : decode cX4_demandTalk 28 = .ok (.ior, 1) := by decide +kernel
theorem dX4_demandTalk_29 : decode cX4_demandTalk 29 = .ok (.goto 12, 3) := by decide +kernel
theorem dX4_demandTalk_32 : decode cX4_demandTalk 32 = .ok (.aload_n 0, 1) := by decide +kernel
theorem dX4_demandTalk_33 : decode cX4_demandTalk 33 = .ok (.getfield 34, 3) := by decide +kernel
theorem dX4_demandTalk_36 : decode cX4_demandTalk 36 = .ok (.iload 4, 2) := by decide +kernel
theorem dX4_demandTalk_38 : decode cX4_demandTalk 38 = .ok (.iconst (-1), 1) := by decide +kernel
theorem dX4_demandTalk_39 : decode cX4_demandTalk 39 = .ok (.ixor, 1) := by decide +kernel
theorem dX4_demandTalk_40 : decode cX4_demandTalk 40 = .ok (.iand, 1) := by decide +kernel
theorem dX4_demandTalk_41 : decode cX4_demandTalk 41 = .ok (.putfield 34, 3) := by decide +kernel
theorem dX4_demandTalk_44 : decode cX4_demandTalk 44 = .ok (.return_, 1) := by decide +kernel
set_option maxRecDepth 20000 in
theorem ggX4_mustTalk_X4_pairNumber : GoodIn wsX4_mustTalk wsX4_pairNumber := goodIn_r _ [12] (by decide +kernel) (by decide +kernel)
set_option maxRecDepth 20000 in
theorem gX4_mustTalk_X4_pairNumber : GoodIn wsX4_mustTalk (va_wsS RX4 63 yX4_pairNumber wsX4_pairNumber) := goodIn_app (goodIn_of _ (by decide +kernel)) ggX4_mustTalk_X4_pairNumber
set_option maxRecDepth 20000 in
theorem ggX4_mustTalk_X6_holds : GoodIn wsX4_mustTalk wsX6_holds := goodIn_r _ [15] (by decide +kernel) (by decide +kernel)
set_option maxRecDepth 20000 in
theorem gX4_mustTalk_X6_holds_n51 : GoodIn wsX4_mustTalk (wsX6_holds) := ggX4_mustTalk_X6_holds
theorem dX4_mustTalk_0 : decode cX4_mustTalk 0 = .ok (.aload_n 0, 1) := by decide +kernel
theorem dX4_mustTalk_1 : decode cX4_mustTalk 1 = .ok (.getfield 34, 3) := by decide +kernel
theorem dX4_mustTalk_4 : decode cX4_mustTalk 4 = .ok (.iload_n 1, 1) := by decide +kernel
theorem dX4_mustTalk_5 : decode cX4_mustTalk 5 = .ok (.iload_n 2, 1) := by decide +kernel
theorem dX4_mustTalk_6 : decode cX4_mustTalk 6 = .ok (.invokestatic 55, 3) := by decide +kernel
theorem dX4_mustTalk_9 : decode cX4_mustTalk 9 = .ok (.iload_n 1, 1) := by decide +kernel
theorem dX4_mustTalk_10 : decode cX4_mustTalk 10 = .ok (.iload_n 2, 1) := by decide +kernel
theorem dX4_mustTalk_11 : decode cX4_mustTalk 11 = .ok (.invokestatic 60, 3) := by decide +kernel
theorem dX4_mustTalk_14 : decode cX4_mustTalk 14 = .ok (.invokestatic 63, 3) := by decide +kernel
theorem dX4_mustTalk_17 : decode cX4_mustTalk 17 = .ok (.invokestatic 51, 3) := by decide +kernel
theorem dX4_mustTalk_20 : decode cX4_mustTalk 20 = .ok (.ireturn, 1) := by decide +kernel
set_option maxRecDepth 20000 in
theorem ggX4_keepMeeting_X4_pairNumber : GoodIn wsX4_keepMeeting wsX4_pairNumber := goodIn_r _ [9] (by decide +kernel) (by decide +kernel)
set_option maxRecDepth 20000 in
theorem gX4_keepMeeting_X4_pairNumber : GoodIn wsX4_keepMeeting (va_wsS RX4 63 yX4_pairNumber wsX4_pairNumber) := goodIn_app (goodIn_of _ (by decide +kernel)) ggX4_keepMeeting_X4_pairNumber
theorem dX4_keepMeeting_0 : decode cX4_keepMeeting 0 = .ok (.iload_n 1, 1) := by decide +kernel
theorem dX4_keepMeeting_1 : decode cX4_keepMeeting 1 = .ok (.iload_n 2, 1) := by decide +kernel
theorem dX4_keepMeeting_2 : decode cX4_keepMeeting 2 = .ok (.invokestatic 63, 3) := by decide +kernel
theorem dX4_keepMeeting_5 : decode cX4_keepMeeting 5 = .ok (.istore 4, 2) := by decide +kernel
theorem dX4_keepMeeting_7 : decode cX4_keepMeeting 7 = .ok (.aload_n 0, 1) := by decide +kernel
theorem dX4_keepMeeting_8 : decode cX4_keepMeeting 8 = .ok (.getfield 18, 3) := by decide +kernel
theorem dX4_keepMeeting_11 : decode cX4_keepMeeting 11 = .ok (.iload 4, 2) := by decide +kernel
theorem dX4_keepMeeting_13 : decode cX4_keepMeeting 13 = .ok (.aload_n 0, 1) := by decide +kernel
theorem dX4_keepMeeting_14 : decode cX4_keepMeeting 14 = .ok (.getfield 18, 3) := by decide +kernel
theorem dX4_keepMeeting_17 : decode cX4_keepMeeting 17 = .ok (.iload 4, 2) := by decide +kernel
theorem dX4_keepMeeting_19 : decode cX4_keepMeeting 19 = .ok (.iaload, 1) := by decide +kernel
theorem dX4_keepMeeting_20 : decode cX4_keepMeeting 20 = .ok (.iload_n 3, 1) := by decide +kernel
theorem dX4_keepMeeting_21 : decode cX4_keepMeeting 21 = .ok (.invokestatic 60, 3) := by decide +kernel
theorem dX4_keepMeeting_24 : decode cX4_keepMeeting 24 = .ok (.iastore, 1) := by decide +kernel
theorem dX4_keepMeeting_25 : decode cX4_keepMeeting 25 = .ok (.return_, 1) := by decide +kernel
set_option maxRecDepth 20000 in
theorem ggX4_memory_X4_pairNumber : GoodIn wsX4_memory wsX4_pairNumber := goodIn_r _ [5] (by decide +kernel) (by decide +kernel)
set_option maxRecDepth 20000 in
theorem gX4_memory_X4_pairNumber : GoodIn wsX4_memory (va_wsS RX4 63 yX4_pairNumber wsX4_pairNumber) := goodIn_app (goodIn_of _ (by decide +kernel)) ggX4_memory_X4_pairNumber
theorem dX4_memory_0 : decode cX4_memory 0 = .ok (.aload_n 0, 1) := by decide +kernel
theorem dX4_memory_1 : decode cX4_memory 1 = .ok (.getfield 18, 3) := by decide +kernel
theorem dX4_memory_4 : decode cX4_memory 4 = .ok (.iload_n 1, 1) := by decide +kernel
theorem dX4_memory_5 : decode cX4_memory 5 = .ok (.iload_n 2, 1) := by decide +kernel
theorem dX4_memory_6 : decode cX4_memory 6 = .ok (.invokestatic 63, 3) := by decide +kernel
theorem dX4_memory_9 : decode cX4_memory 9 = .ok (.iaload, 1) := by decide +kernel
theorem dX4_memory_10 : decode cX4_memory 10 = .ok (.ireturn, 1) := by decide +kernel
theorem dX4_pairNumber_0 : decode cX4_pairNumber 0 = .ok (.iconst 5, 1) := by decide +kernel
theorem dX4_pairNumber_1 : decode cX4_pairNumber 1 = .ok (.iload_n 0, 1) := by decide +kernel
theorem dX4_pairNumber_2 : decode cX4_pairNumber 2 = .ok (.imul, 1) := by decide +kernel
theorem dX4_pairNumber_3 : decode cX4_pairNumber 3 = .ok (.iload_n 1, 1) := by decide +kernel
theorem dX4_pairNumber_4 : decode cX4_pairNumber 4 = .ok (.iadd, 1) := by decide +kernel
theorem dX4_pairNumber_5 : decode cX4_pairNumber 5 = .ok (.ireturn, 1) := by decide +kernel
theorem dX5_init_0 : decode cX5_init 0 = .ok (.aload_n 0, 1) := by decide +kernel
theorem dX5_init_1 : decode cX5_init 1 = .ok (.invokespecial 3, 3) := by decide +kernel
theorem dX5_init_4 : decode cX5_init 4 = .ok (.aload_n 0, 1) := by decide +kernel
theorem dX5_init_5 : decode cX5_init 5 = .ok (.aload_n 1, 1) := by decide +kernel
theorem dX5_init_6 : decode cX5_init 6 = .ok (.putfield 9, 3) := by decide +kernel
theorem dX5_init_9 : decode cX5_init 9 = .ok (.aload_n 0, 1) := by decide +kernel
theorem dX5_init_10 : decode cX5_init 10 = .ok (.iconst (-1), 1) := by decide +kernel
theorem dX5_init_11 : decode cX5_init 11 = .ok (.putfield 15, 3) := by decide +kernel
theorem dX5_init_14 : decode cX5_init 14 = .ok (.return_, 1) := by decide +kernel
theorem dX5_letterFound_0 : decode cX5_letterFound 0 = .ok (.aload_n 0, 1) := by decide +kernel
theorem dX5_letterFound_1 : decode cX5_letterFound 1 = .ok (.getfield 15, 3) := by decide +kernel
theorem dX5_letterFound_4 : decode cX5_letterFound 4 = .ok (.ireturn, 1) := by decide +kernel
set_option maxRecDepth 20000 in
theorem ggX5_writeAll_X5_writeFriends : GoodIn wsX5_writeAll wsX5_writeFriends := goodIn_r _ [9, 4, 10, 11, 12, 13, 14, 15, 16, 17, 18, 8, 19, 20, 21, 22, 23, 24, 25, 26, 27, 28, 29, 30, 31, 32, 33, 34, 35, 36, 37, 38, 39, 40, 41, 42, 43, 44, 45, 46, 47, 48, 49, 50, 51, 52, 53, 54, 55, 56, 57, 58, 59, 60, 61, 62, 63, 64, 65, 66, 67, 68, 69, 70, 71, 72, 1, 2, 3, 73, 74, 75, 76, 77, 78, 79, 80, 81, 82, 83, 135, 136, 137, 138, 139, 140, 141, 142, 143, 144, 145] (by decide +kernel) (by decide +kernel)
set_option maxRecDepth 20000 in
theorem gX5_writeAll_X5_writeFriends : GoodIn wsX5_writeAll (wsV RX5 25 RX5 yX5_writeFriends wsX5_writeFriends) := goodIn_app (goodIn_of _ (by decide +kernel)) ggX5_writeAll_X5_writeFriends
set_option maxRecDepth 20000 in
theorem ggX5_writeAll_X4_waysBroken : GoodIn wsX5_writeAll wsX4_waysBroken := goodIn_r _ [87, 88, 139, 140, 141, 142, 143, 144, 145] (by decide +kernel) (by decide +kernel)
set_option maxRecDepth 20000 in
theorem gX5_writeAll_X4_waysBroken : GoodIn wsX5_writeAll (wsV RX5 28 RX4 yX4_waysBroken wsX4_waysBroken) := goodIn_app (goodIn_of _ (by decide +kernel)) ggX5_writeAll_X4_waysBroken
set_option maxRecDepth 20000 in
theorem ggX5_writeAll_X5_put : GoodIn wsX5_writeAll wsX5_put := goodIn_r _ [19, 20, 21, 22, 23, 24, 25, 26, 27, 28, 29, 30, 31, 32, 33, 34, 35, 36, 37, 38, 39, 40, 41, 42, 43, 44, 45, 46, 47, 48, 49, 50, 51, 52, 53, 54, 55, 56, 57, 58, 59, 60, 61, 62, 63, 64, 65, 66, 67, 68, 69, 70, 71, 8, 72, 1, 2, 3, 135, 136, 137, 138] (by decide +kernel) (by decide +kernel)
set_option maxRecDepth 20000 in
theorem gX5_writeAll_X5_put : GoodIn wsX5_writeAll (wsV RX5 36 RX5 yX5_put wsX5_put) := goodIn_app (goodIn_of _ (by decide +kernel)) ggX5_writeAll_X5_put
set_option maxRecDepth 20000 in
theorem ggX5_writeAll_X5_putWays : GoodIn wsX5_writeAll wsX5_putWays := goodIn_r _ [80, 81, 82, 83, 73, 74, 75, 8, 76, 69, 70, 71, 72, 1, 2, 3, 135, 136, 137, 138] (by decide +kernel) (by decide +kernel)
set_option maxRecDepth 20000 in
theorem gX5_writeAll_X5_putWays : GoodIn wsX5_writeAll (wsV RX5 40 RX5 yX5_putWays wsX5_putWays) := goodIn_app (goodIn_of _ (by decide +kernel)) ggX5_writeAll_X5_putWays
set_option maxRecDepth 20000 in
theorem ggX5_writeAll_X5_putByte : GoodIn wsX5_writeAll wsX5_putByte := goodIn_r _ [72, 1, 2, 3, 135, 136, 137, 138] (by decide +kernel) (by decide +kernel)
set_option maxRecDepth 20000 in
theorem gX5_writeAll_X5_putByte : GoodIn wsX5_writeAll (wsV RX5 44 RX5 yX5_putByte wsX5_putByte) := goodIn_app (goodIn_of _ (by decide +kernel)) ggX5_writeAll_X5_putByte
set_option maxRecDepth 20000 in
theorem ggX5_writeAll_X4_triesAllowed : GoodIn wsX5_writeAll wsX4_triesAllowed := goodIn_r _ [92, 93, 139, 140, 141, 142, 143, 144, 145] (by decide +kernel) (by decide +kernel)
set_option maxRecDepth 20000 in
theorem gX5_writeAll_X4_triesAllowed : GoodIn wsX5_writeAll (wsV RX5 47 RX4 yX4_triesAllowed wsX4_triesAllowed) := goodIn_app (goodIn_of _ (by decide +kernel)) ggX5_writeAll_X4_triesAllowed
set_option maxRecDepth 20000 in
theorem ggX5_writeAll_X5_putNumber : GoodIn wsX5_writeAll wsX5_putNumber := goodIn_r _ [76, 69, 70, 71, 8, 72, 1, 2, 3, 135, 136, 137, 138] (by decide +kernel) (by decide +kernel)
set_option maxRecDepth 20000 in
theorem gX5_writeAll_X5_putNumber : GoodIn wsX5_writeAll (wsV RX5 52 RX5 yX5_putNumber wsX5_putNumber) := goodIn_app (goodIn_of _ (by decide +kernel)) ggX5_writeAll_X5_putNumber
set_option maxRecDepth 20000 in
theorem ggX5_writeAll_X5_writeMends : GoodIn wsX5_writeAll wsX5_writeMends := goodIn_r _ [97, 4, 98, 99, 100, 13, 101, 102, 81, 82, 83, 16, 17, 18, 8, 19, 20, 21, 22, 23, 24, 25, 26, 27, 28, 29, 30, 31, 32, 33, 34, 35, 36, 37, 38, 39, 40, 41, 42, 43, 44, 45, 46, 47, 48, 49, 50, 51, 52, 53, 54, 55, 56, 57, 58, 59, 60, 61, 62, 63, 64, 65, 66, 67, 68, 69, 70, 71, 72, 1, 2, 3, 103, 104, 105, 106, 73, 74, 75, 76, 135, 136, 137, 138, 139, 140, 141, 142, 143, 144, 145] (by decide +kernel) (by decide +kernel)
set_option maxRecDepth 20000 in
theorem gX5_writeAll_X5_writeMends : GoodIn wsX5_writeAll (wsV RX5 55 RX5 yX5_writeMends wsX5_writeMends) := goodIn_app (goodIn_of _ (by decide +kernel)) ggX5_writeAll_X5_writeMends
set_option maxRecDepth 20000 in
theorem ggX5_writeAll_X5_writeCosts : GoodIn wsX5_writeAll wsX5_writeCosts := goodIn_r _ [110, 4, 111, 112, 113, 13, 114, 115, 16, 17, 18, 8, 19, 20, 21, 22, 23, 24, 25, 26, 27, 28, 29, 30, 31, 32, 33, 34, 35, 36, 37, 38, 39, 40, 41, 42, 43, 44, 45, 46, 47, 48, 49, 50, 51, 52, 53, 54, 55, 56, 57, 58, 59, 60, 61, 62, 63, 64, 65, 66, 67, 68, 69, 70, 71, 72, 1, 2, 3, 103, 104, 105, 106, 73, 74, 75, 76, 135, 136, 137, 138, 139, 140, 141, 142, 143, 144, 145] (by decide +kernel) (by decide +kernel)
set_option maxRecDepth 20000 in
theorem gX5_writeAll_X5_writeCosts : GoodIn wsX5_writeAll (wsV RX5 58 RX5 yX5_writeCosts wsX5_writeCosts) := goodIn_app (goodIn_of _ (by decide +kernel)) ggX5_writeAll_X5_writeCosts
set_option maxRecDepth 20000 in
theorem ggX5_writeAll_X5_writeMusts : GoodIn wsX5_writeAll wsX5_writeMusts := goodIn_r _ [119, 4, 120, 121, 122, 13, 123, 124, 125, 126, 127, 128, 129, 130, 131, 132, 133, 134, 81, 82, 83, 16, 17, 18, 8, 19, 20, 21, 22, 23, 24, 25, 26, 27, 28, 29, 30, 31, 32, 33, 34, 35, 36, 37, 38, 39, 40, 41, 42, 43, 44, 45, 46, 47, 48, 49, 50, 51, 52, 53, 54, 55, 56, 57, 58, 59, 60, 61, 62, 63, 64, 65, 66, 67, 68, 69, 70, 71, 72, 1, 2, 3, 73, 74, 75, 76, 135, 136, 137, 138, 139, 140, 141, 142, 143, 144, 145] (by decide +kernel) (by decide +kernel)
set_option maxRecDepth 20000 in
theorem gX5_writeAll_X5_writeMusts : GoodIn wsX5_writeAll (wsV RX5 61 RX5 yX5_writeMusts wsX5_writeMusts) := goodIn_app (goodIn_of _ (by decide +kernel)) ggX5_writeAll_X5_writeMusts
theorem dX5_writeAll_0 : decode cX5_writeAll 0 = .ok (.aload_n 0, 1) := by decide +kernel
theorem dX5_writeAll_1 : decode cX5_writeAll 1 = .ok (.iconst 0, 1) := by decide +kernel
theorem dX5_writeAll_2 : decode cX5_writeAll 2 = .ok (.putfield 19, 3) := by decide +kernel
theorem dX5_writeAll_5 : decode cX5_writeAll 5 = .ok (.aload_n 0, 1) := by decide +kernel
theorem dX5_writeAll_6 : decode cX5_writeAll 6 = .ok (.iload_n 1, 1) := by decide +kernel
theorem dX5_writeAll_7 : decode cX5_writeAll 7 = .ok (.putfield 22, 3) := by decide +kernel
theorem dX5_writeAll_10 : decode cX5_writeAll 10 = .ok (.aload_n 0, 1) := by decide +kernel
theorem dX5_writeAll_11 : decode cX5_writeAll 11 = .ok (.iconst (-1), 1) := by decide +kernel
theorem dX5_writeAll_12 : decode cX5_writeAll 12 = .ok (.putfield 15, 3) := by decide +kernel
theorem dX5_writeAll_15 : decode cX5_writeAll 15 = .ok (.aload_n 0, 1) := by decide +kernel
theorem dX5_writeAll_16 : decode cX5_writeAll 16 = .ok (.invokevirtual 25, 3) := by decide +kernel
theorem dX5_writeAll_19 : decode cX5_writeAll 19 = .ok (.aload_n 0, 1) := by decide +kernel
theorem dX5_writeAll_20 : decode cX5_writeAll 20 = .ok (.getfield 9, 3) := by decide +kernel
theorem dX5_writeAll_23 : decode cX5_writeAll 23 = .ok (.invokevirtual 28, 3) := by decide +kernel
theorem dX5_writeAll_26 : decode cX5_writeAll 26 = .ok (.ifCond .eq 26, 3) := by decide +kernel
theorem dX5_writeAll_29 : decode cX5_writeAll 29 = .ok (.aload_n 0, 1) := by decide +kernel
theorem dX5_writeAll_30 : decode cX5_writeAll 30 = .ok (.ldc 34, 2) := by decide +kernel
theorem dX5_writeAll_32 : decode cX5_writeAll 32 = .ok (.invokevirtual 36, 3) := by decide +kernel
theorem dX5_writeAll_35 : decode cX5_writeAll 35 = .ok (.aload_n 0, 1) := by decide +kernel
theorem dX5_writeAll_36 : decode cX5_writeAll 36 = .ok (.aload_n 0, 1) := by decide +kernel
theorem dX5_writeAll_37 : decode cX5_writeAll 37 = .ok (.getfield 9, 3) := by decide +kernel
theorem dX5_writeAll_40 : decode cX5_writeAll 40 = .ok (.invokevirtual 28, 3) := by decide +kernel
theorem dX5_writeAll_43 : decode cX5_writeAll 43 = .ok (.invokevirtual 40, 3) := by decide +kernel
theorem dX5_writeAll_46 : decode cX5_writeAll 46 = .ok (.aload_n 0, 1) := by decide +kernel
theorem dX5_writeAll_47 : decode cX5_writeAll 47 = .ok (.bipush 59, 2) := by decide +kernel
theorem dX5_writeAll_49 : decode cX5_writeAll 49 = .ok (.invokevirtual 44, 3) := by decide +kernel
theorem dX5_writeAll_52 : decode cX5_writeAll 52 = .ok (.aload_n 0, 1) := by decide +kernel
theorem dX5_writeAll_53 : decode cX5_writeAll 53 = .ok (.getfield 9, 3) := by decide +kernel
theorem dX5_writeAll_56 : decode cX5_writeAll 56 = .ok (.invokevirtual 47, 3) := by decide +kernel
theorem dX5_writeAll_59 : decode cX5_writeAll 59 = .ok (.ifCond .le 26, 3) := by decide +kernel
theorem dX5_writeAll_62 : decode cX5_writeAll 62 = .ok (.aload_n 0, 1) := by decide +kernel
theorem dX5_writeAll_63 : decode cX5_writeAll 63 = .ok (.ldc 50, 2) := by decide +kernel
theorem dX5_writeAll_65 : decode cX5_writeAll 65 = .ok (.invokevirtual 36, 3) := by decide +kernel
theorem dX5_writeAll_68 : decode cX5_writeAll 68 = .ok (.aload_n 0, 1) := by decide +kernel
theorem dX5_writeAll_69 : decode cX5_writeAll 69 = .ok (.aload_n 0, 1) := by decide +kernel
theorem dX5_writeAll_70 : decode cX5_writeAll 70 = .ok (.getfield 9, 3) := by decide +kernel
theorem dX5_writeAll_73 : decode cX5_writeAll 73 = .ok (.invokevirtual 47, 3) := by decide +kernel
theorem dX5_writeAll_76 : decode cX5_writeAll 76 = .ok (.invokevirtual 52, 3) := by decide +kernel
theorem dX5_writeAll_79 : decode cX5_writeAll 79 = .ok (.aload_n 0, 1) := by decide +kernel
theorem dX5_writeAll_80 : decode cX5_writeAll 80 = .ok (.bipush 59, 2) := by decide +kernel
theorem dX5_writeAll_82 : decode cX5_writeAll 82 = .ok (.invokevirtual 44, 3) := by decide +kernel
theorem dX5_writeAll_85 : decode cX5_writeAll 85 = .ok (.aload_n 0, 1) := by decide +kernel
theorem dX5_writeAll_86 : decode cX5_writeAll 86 = .ok (.invokevirtual 55, 3) := by decide +kernel
theorem dX5_writeAll_89 : decode cX5_writeAll 89 = .ok (.aload_n 0, 1) := by decide +kernel
theorem dX5_writeAll_90 : decode cX5_writeAll 90 = .ok (.invokevirtual 58, 3) := by decide +kernel
theorem dX5_writeAll_93 : decode cX5_writeAll 93 = .ok (.aload_n 0, 1) := by decide +kernel
theorem dX5_writeAll_94 : decode cX5_writeAll 94 = .ok (.invokevirtual 61, 3) := by decide +kernel
theorem dX5_writeAll_97 : decode cX5_writeAll 97 = .ok (.aload_n 0, 1) := by decide +kernel
theorem dX5_writeAll_98 : decode cX5_writeAll 98 = .ok (.getfield 19, 3) := by decide +kernel
theorem dX5_writeAll_101 : decode cX5_writeAll 101 = .ok (.ireturn, 1) := by decide +kernel
set_option maxRecDepth 20000 in
theorem ggX5_writeFriends_X4_waysGiven : GoodIn wsX5_writeFriends wsX4_waysGiven := goodIn_r _ [6, 7, 84, 85, 86, 87, 88, 89, 90] (by decide +kernel) (by decide +kernel)
set_option maxRecDepth 20000 in
theorem gX5_writeFriends_X4_waysGiven : GoodIn wsX5_writeFriends (wsV RX5 64 RX4 yX4_waysGiven wsX4_waysGiven) := goodIn_app (goodIn_of _ (by decide +kernel)) ggX5_writeFriends_X4_waysGiven
set_option maxRecDepth 20000 in
theorem ggX5_writeFriends_X5_put : GoodIn wsX5_writeFriends wsX5_put := goodIn_r _ [12, 13, 14, 15, 16, 17, 18, 19, 20, 21, 22, 23, 24, 25, 26, 27, 28, 29, 30, 31, 32, 33, 34, 35, 36, 37, 38, 39, 40, 41, 42, 43, 44, 45, 46, 47, 48, 49, 50, 51, 52, 53, 54, 55, 56, 57, 58, 59, 60, 61, 62, 63, 64, 11, 65, 66, 67, 68, 80, 81, 82, 83] (by decide +kernel) (by decide +kernel)
set_option maxRecDepth 20000 in
theorem gX5_writeFriends_X5_put : GoodIn wsX5_writeFriends (wsV RX5 36 RX5 yX5_put wsX5_put) := goodIn_app (goodIn_of _ (by decide +kernel)) ggX5_writeFriends_X5_put
set_option maxRecDepth 20000 in
theorem ggX5_writeFriends_X5_putNumber : GoodIn wsX5_writeFriends wsX5_putNumber := goodIn_r _ [72, 62, 63, 64, 11, 65, 66, 67, 68, 80, 81, 82, 83] (by decide +kernel) (by decide +kernel)
set_option maxRecDepth 20000 in
theorem gX5_writeFriends_X5_putNumber : GoodIn wsX5_writeFriends (wsV RX5 52 RX5 yX5_putNumber wsX5_putNumber) := goodIn_app (goodIn_of _ (by decide +kernel)) ggX5_writeFriends_X5_putNumber
set_option maxRecDepth 20000 in
theorem ggX5_writeFriends_X5_putWays : GoodIn wsX5_writeFriends wsX5_putWays := goodIn_r _ [76, 77, 78, 79, 69, 70, 71, 11, 72, 62, 63, 64, 65, 66, 67, 68, 80, 81, 82, 83] (by decide +kernel) (by decide +kernel)
set_option maxRecDepth 20000 in
theorem gX5_writeFriends_X5_putWays : GoodIn wsX5_writeFriends (wsV RX5 40 RX5 yX5_putWays wsX5_putWays) := goodIn_app (goodIn_of _ (by decide +kernel)) ggX5_writeFriends_X5_putWays
set_option maxRecDepth 20000 in
theorem ggX5_writeFriends_X5_putByte : GoodIn wsX5_writeFriends wsX5_putByte := goodIn_r _ [65, 66, 67, 68, 80, 81, 82, 83] (by decide +kernel) (by decide +kernel)
set_option maxRecDepth 20000 in
theorem gX5_writeFriends_X5_putByte : GoodIn wsX5_writeFriends (wsV RX5 44 RX5 yX5_putByte wsX5_putByte) := goodIn_app (goodIn_of _ (by decide +kernel)) ggX5_writeFriends_X5_putByte
theorem dX5_writeFriends_0 : decode cX5_writeFriends 0 = .ok (.iconst 0, 1) := by decide +kernel
theorem dX5_writeFriends_1 : decode cX5_writeFriends 1 = .ok (.istore_n 1, 1) := by decide +kernel
theorem dX5_writeFriends_2 : decode cX5_writeFriends 2 = .ok (.iload_n 1, 1) := by decide +kernel
theorem dX5_writeFriends_3 : decode cX5_writeFriends 3 = .ok (.iconst 5, 1) := by decide +kernel
theorem dX5_writeFriends_4 : decode cX5_writeFriends 4 = .ok (.if_icmp .ge 55, 3) := by decide +kernel
theorem dX5_writeFriends_7 : decode cX5_writeFriends 7 = .ok (.aload_n 0, 1) := by decide +kernel
theorem dX5_writeFriends_8 : decode cX5_writeFriends 8 = .ok (.getfield 9, 3) := by decide +kernel
theorem dX5_writeFriends_11 : decode cX5_writeFriends 11 = .ok (.iload_n 1, 1) := by decide +kernel
theorem dX5_writeFriends_12 : decode cX5_writeFriends 12 = .ok (.invokevirtual 64, 3) := by decide +kernel
theorem dX5_writeFriends_15 : decode cX5_writeFriends 15 = .ok (.ifCond .eq 38, 3) := by decide +kernel
theorem dX5_writeFriends_18 : decode cX5_writeFriends 18 = .ok (.aload_n 0, 1) := by decide +kernel
theorem dX5_writeFriends_19 : decode cX5_writeFriends 19 = .ok (.ldc 68, 2) := by decide +kernel
theorem dX5_writeFriends_21 : decode cX5_writeFriends 21 = .ok (.invokevirtual 36, 3) := by decide +kernel
theorem dX5_writeFriends_24 : decode cX5_writeFriends 24 = .ok (.aload_n 0, 1) := by decide +kernel
theorem dX5_writeFriends_25 : decode cX5_writeFriends 25 = .ok (.iload_n 1, 1) := by decide +kernel
theorem dX5_writeFriends_26 : decode cX5_writeFriends 26 = .ok (.invokevirtual 52, 3) := by decide +kernel
theorem dX5_writeFriends_29 : decode cX5_writeFriends 29 = .ok (.aload_n 0, 1) := by decide +kernel
theorem dX5_writeFriends_30 : decode cX5_writeFriends 30 = .ok (.ldc 70, 2) := by decide +kernel
theorem dX5_writeFriends_32 : decode cX5_writeFriends 32 = .ok (.invokevirtual 36, 3) := by decide +kernel
theorem dX5_writeFriends_35 : decode cX5_writeFriends 35 = .ok (.aload_n 0, 1) := by decide +kernel
theorem dX5_writeFriends_36 : decode cX5_writeFriends 36 = .ok (.aload_n 0, 1) := by decide +kernel
theorem dX5_writeFriends_37 : decode cX5_writeFriends 37 = .ok (.getfield 9, 3) := by decide +kernel
theorem dX5_writeFriends_40 : decode cX5_writeFriends 40 = .ok (.iload_n 1, 1) := by decide +kernel
theorem dX5_writeFriends_41 : decode cX5_writeFriends 41 = .ok (.invokevirtual 64, 3) := by decide +kernel
theorem dX5_writeFriends_44 : decode cX5_writeFriends 44 = .ok (.invokevirtual 40, 3) := by decide +kernel
theorem dX5_writeFriends_47 : decode cX5_writeFriends 47 = .ok (.aload_n 0, 1) := by decide +kernel
theorem dX5_writeFriends_48 : decode cX5_writeFriends 48 = .ok (.bipush 59, 2) := by decide +kernel
theorem dX5_writeFriends_50 : decode cX5_writeFriends 50 = .ok (.invokevirtual 44, 3) := by decide +kernel
theorem dX5_writeFriends_53 : decode cX5_writeFriends 53 = .ok (.iinc 1 1, 3) := by decide +kernel
theorem dX5_writeFriends_56 : decode cX5_writeFriends 56 = .ok (.goto (-54), 3) := by decide +kernel
theorem dX5_writeFriends_59 : decode cX5_writeFriends 59 = .ok (.return_, 1) := by decide +kernel
set_option maxRecDepth 20000 in
theorem ggX5_writeMends_X4_isOn : GoodIn wsX5_writeMends wsX4_isOn := goodIn_r _ [6, 7, 8, 9, 10, 84, 85, 86, 87, 88, 89, 90] (by decide +kernel) (by decide +kernel)
set_option maxRecDepth 20000 in
theorem gX5_writeMends_X4_isOn : GoodIn wsX5_writeMends (wsV RX5 72 RX4 yX4_isOn wsX4_isOn) := goodIn_app (goodIn_of _ (by decide +kernel)) ggX5_writeMends_X4_isOn
set_option maxRecDepth 20000 in
theorem ggX5_writeMends_X5_put : GoodIn wsX5_writeMends wsX5_put := goodIn_r _ [15, 16, 17, 18, 19, 20, 21, 22, 23, 24, 25, 26, 27, 28, 29, 30, 31, 32, 33, 34, 35, 36, 37, 38, 39, 40, 41, 42, 43, 44, 45, 46, 47, 48, 49, 50, 51, 52, 53, 54, 55, 56, 57, 58, 59, 60, 61, 62, 63, 64, 65, 66, 67, 14, 68, 69, 70, 71, 80, 81, 82, 83] (by decide +kernel) (by decide +kernel)
set_option maxRecDepth 20000 in
theorem gX5_writeMends_X5_put : GoodIn wsX5_writeMends (wsV RX5 36 RX5 yX5_put wsX5_put) := goodIn_app (goodIn_of _ (by decide +kernel)) ggX5_writeMends_X5_put
set_option maxRecDepth 20000 in
theorem ggX5_writeMends_X5_putMendName : GoodIn wsX5_writeMends wsX5_putMendName := goodIn_r _ [75, 11, 12, 13, 14, 15, 16, 17, 18, 19, 20, 21, 22, 23, 24, 25, 26, 27, 28, 29, 30, 31, 32, 33, 34, 35, 36, 37, 38, 39, 40, 41, 42, 43, 44, 45, 46, 47, 48, 49, 50, 51, 52, 53, 54, 55, 56, 57, 58, 59, 60, 61, 62, 63, 64, 65, 66, 67, 68, 69, 70, 71, 76, 77, 78, 79, 80, 81, 82, 83] (by decide +kernel) (by decide +kernel)
set_option maxRecDepth 20000 in
theorem gX5_writeMends_X5_putMendName : GoodIn wsX5_writeMends (wsV RX5 80 RX5 yX5_putMendName wsX5_putMendName) := goodIn_app (goodIn_of _ (by decide +kernel)) ggX5_writeMends_X5_putMendName
set_option maxRecDepth 20000 in
theorem ggX5_writeMends_X5_putByte : GoodIn wsX5_writeMends wsX5_putByte := goodIn_r _ [68, 69, 70, 71, 80, 81, 82, 83] (by decide +kernel) (by decide +kernel)
set_option maxRecDepth 20000 in
theorem gX5_writeMends_X5_putByte : GoodIn wsX5_writeMends (wsV RX5 44 RX5 yX5_putByte wsX5_putByte) := goodIn_app (goodIn_of _ (by decide +kernel)) ggX5_writeMends_X5_putByte
theorem dX5_writeMends_0 : decode cX5_writeMends 0 = .ok (.iconst 0, 1) := by decide +kernel
theorem dX5_writeMends_1 : decode cX5_writeMends 1 = .ok (.istore_n 1, 1) := by decide +kernel
theorem dX5_writeMends_2 : decode cX5_writeMends 2 = .ok (.iload_n 1, 1) := by decide +kernel
theorem dX5_writeMends_3 : decode cX5_writeMends 3 = .ok (.bipush 7, 2) := by decide +kernel
theorem dX5_writeMends_5 : decode cX5_writeMends 5 = .ok (.if_icmp .ge 47, 3) := by decide +kernel
theorem dX5_writeMends_8 : decode cX5_writeMends 8 = .ok (.aload_n 0, 1) := by decide +kernel
theorem dX5_writeMends_9 : decode cX5_writeMends 9 = .ok (.getfield 9, 3) := by decide +kernel
theorem dX5_writeMends_12 : decode cX5_writeMends 12 = .ok (.iload_n 1, 1) := by decide +kernel
theorem dX5_writeMends_13 : decode cX5_writeMends 13 = .ok (.invokevirtual 72, 3) := by decide +kernel
theorem dX5_writeMends_16 : decode cX5_writeMends 16 = .ok (.ifCond .eq 30, 3) := by decide +kernel
theorem dX5_writeMends_19 : decode cX5_writeMends 19 = .ok (.aload_n 0, 1) := by decide +kernel
theorem dX5_writeMends_20 : decode cX5_writeMends 20 = .ok (.iload_n 1, 1) := by decide +kernel
theorem dX5_writeMends_21 : decode cX5_writeMends 21 = .ok (.iconst 3, 1) := by decide +kernel
theorem dX5_writeMends_22 : decode cX5_writeMends 22 = .ok (.if_icmp .ge 8, 3) := by decide +kernel
theorem dX5_writeMends_25 : decode cX5_writeMends 25 = .ok (.ldc 76, 2) := by decide +kernel
theorem dX5_writeMends_27 : decode cX5_writeMends 27 = .ok (.goto 5, 3) := by decide +kernel
theorem dX5_writeMends_30 : decode cX5_writeMends 30 = .ok (.ldc 78, 2) := by decide +kernel
theorem dX5_writeMends_32 : decode cX5_writeMends 32 = .ok (.invokevirtual 36, 3) := by decide +kernel
theorem dX5_writeMends_35 : decode cX5_writeMends 35 = .ok (.aload_n 0, 1) := by decide +kernel
theorem dX5_writeMends_36 : decode cX5_writeMends 36 = .ok (.iload_n 1, 1) := by decide +kernel
theorem dX5_writeMends_37 : decode cX5_writeMends 37 = .ok (.invokevirtual 80, 3) := by decide +kernel
theorem dX5_writeMends_40 : decode cX5_writeMends 40 = .ok (.aload_n 0, 1) := by decide +kernel
theorem dX5_writeMends_41 : decode cX5_writeMends 41 = .ok (.bipush 59, 2) := by decide +kernel
theorem dX5_writeMends_43 : decode cX5_writeMends 43 = .ok (.invokevirtual 44, 3) := by decide +kernel
theorem dX5_writeMends_46 : decode cX5_writeMends 46 = .ok (.iinc 1 1, 3) := by decide +kernel
theorem dX5_writeMends_49 : decode cX5_writeMends 49 = .ok (.goto (-47), 3) := by decide +kernel
theorem dX5_writeMends_52 : decode cX5_writeMends 52 = .ok (.return_, 1) := by decide +kernel
set_option maxRecDepth 20000 in
theorem ggX5_writeCosts_X4_priceOf : GoodIn wsX5_writeCosts wsX4_priceOf := goodIn_r _ [6, 7, 81, 82, 83, 84, 85, 86, 87] (by decide +kernel) (by decide +kernel)
set_option maxRecDepth 20000 in
theorem gX5_writeCosts_X4_priceOf : GoodIn wsX5_writeCosts (wsV RX5 83 RX4 yX4_priceOf wsX4_priceOf) := goodIn_app (goodIn_of _ (by decide +kernel)) ggX5_writeCosts_X4_priceOf
set_option maxRecDepth 20000 in
theorem ggX5_writeCosts_X5_put : GoodIn wsX5_writeCosts wsX5_put := goodIn_r _ [12, 13, 14, 15, 16, 17, 18, 19, 20, 21, 22, 23, 24, 25, 26, 27, 28, 29, 30, 31, 32, 33, 34, 35, 36, 37, 38, 39, 40, 41, 42, 43, 44, 45, 46, 47, 48, 49, 50, 51, 52, 53, 54, 55, 56, 57, 58, 59, 60, 61, 62, 63, 64, 11, 65, 66, 67, 68, 77, 78, 79, 80] (by decide +kernel) (by decide +kernel)
set_option maxRecDepth 20000 in
theorem gX5_writeCosts_X5_put : GoodIn wsX5_writeCosts (wsV RX5 36 RX5 yX5_put wsX5_put) := goodIn_app (goodIn_of _ (by decide +kernel)) ggX5_writeCosts_X5_put
set_option maxRecDepth 20000 in
theorem ggX5_writeCosts_X5_putMendName : GoodIn wsX5_writeCosts wsX5_putMendName := goodIn_r _ [72, 8, 9, 10, 11, 12, 13, 14, 15, 16, 17, 18, 19, 20, 21, 22, 23, 24, 25, 26, 27, 28, 29, 30, 31, 32, 33, 34, 35, 36, 37, 38, 39, 40, 41, 42, 43, 44, 45, 46, 47, 48, 49, 50, 51, 52, 53, 54, 55, 56, 57, 58, 59, 60, 61, 62, 63, 64, 65, 66, 67, 68, 73, 74, 75, 76, 77, 78, 79, 80] (by decide +kernel) (by decide +kernel)
set_option maxRecDepth 20000 in
theorem gX5_writeCosts_X5_putMendName : GoodIn wsX5_writeCosts (wsV RX5 80 RX5 yX5_putMendName wsX5_putMendName) := goodIn_app (goodIn_of _ (by decide +kernel)) ggX5_writeCosts_X5_putMendName
set_option maxRecDepth 20000 in
theorem ggX5_writeCosts_X5_putNumber : GoodIn wsX5_writeCosts wsX5_putNumber := goodIn_r _ [76, 62, 63, 64, 11, 65, 66, 67, 68, 77, 78, 79, 80] (by decide +kernel) (by decide +kernel)
set_option maxRecDepth 20000 in
theorem gX5_writeCosts_X5_putNumber : GoodIn wsX5_writeCosts (wsV RX5 52 RX5 yX5_putNumber wsX5_putNumber) := goodIn_app (goodIn_of _ (by decide +kernel)) ggX5_writeCosts_X5_putNumber
set_option maxRecDepth 20000 in
theorem ggX5_writeCosts_X5_putByte : GoodIn wsX5_writeCosts wsX5_putByte := goodIn_r _ [65, 66, 67, 68, 77, 78, 79, 80] (by decide +kernel) (by decide +kernel)
set_option maxRecDepth 20000 in
theorem gX5_writeCosts_X5_putByte : GoodIn wsX5_writeCosts (wsV RX5 44 RX5 yX5_putByte wsX5_putByte) := goodIn_app (goodIn_of _ (by decide +kernel)) ggX5_writeCosts_X5_putByte
theorem dX5_writeCosts_0 : decode cX5_writeCosts 0 = .ok (.iconst 0, 1) := by decide +kernel
theorem dX5_writeCosts_1 : decode cX5_writeCosts 1 = .ok (.istore_n 1, 1) := by decide +kernel
theorem dX5_writeCosts_2 : decode cX5_writeCosts 2 = .ok (.iload_n 1, 1) := by decide +kernel
theorem dX5_writeCosts_3 : decode cX5_writeCosts 3 = .ok (.bipush 7, 2) := by decide +kernel
theorem dX5_writeCosts_5 : decode cX5_writeCosts 5 = .ok (.if_icmp .ge 51, 3) := by decide +kernel
theorem dX5_writeCosts_8 : decode cX5_writeCosts 8 = .ok (.aload_n 0, 1) := by decide +kernel
theorem dX5_writeCosts_9 : decode cX5_writeCosts 9 = .ok (.getfield 9, 3) := by decide +kernel
theorem dX5_writeCosts_12 : decode cX5_writeCosts 12 = .ok (.iload_n 1, 1) := by decide +kernel
theorem dX5_writeCosts_13 : decode cX5_writeCosts 13 = .ok (.invokevirtual 83, 3) := by decide +kernel
theorem dX5_writeCosts_16 : decode cX5_writeCosts 16 = .ok (.bipush 10, 2) := by decide +kernel
theorem dX5_writeCosts_18 : decode cX5_writeCosts 18 = .ok (.if_icmp .eq 32, 3) := by decide +kernel
theorem dX5_writeCosts_21 : decode cX5_writeCosts 21 = .ok (.aload_n 0, 1) := by decide +kernel
theorem dX5_writeCosts_22 : decode cX5_writeCosts 22 = .ok (.ldc 86, 2) := by decide +kernel
theorem dX5_writeCosts_24 : decode cX5_writeCosts 24 = .ok (.invokevirtual 36, 3) := by decide +kernel
theorem dX5_writeCosts_27 : decode cX5_writeCosts 27 = .ok (.aload_n 0, 1) := by decide +kernel
theorem dX5_writeCosts_28 : decode cX5_writeCosts 28 = .ok (.iload_n 1, 1) := by decide +kernel
theorem dX5_writeCosts_29 : decode cX5_writeCosts 29 = .ok (.invokevirtual 80, 3) := by decide +kernel
theorem dX5_writeCosts_32 : decode cX5_writeCosts 32 = .ok (.aload_n 0, 1) := by decide +kernel
theorem dX5_writeCosts_33 : decode cX5_writeCosts 33 = .ok (.aload_n 0, 1) := by decide +kernel
theorem dX5_writeCosts_34 : decode cX5_writeCosts 34 = .ok (.getfield 9, 3) := by decide +kernel
theorem dX5_writeCosts_37 : decode cX5_writeCosts 37 = .ok (.iload_n 1, 1) := by decide +kernel
theorem dX5_writeCosts_38 : decode cX5_writeCosts 38 = .ok (.invokevirtual 83, 3) := by decide +kernel
theorem dX5_writeCosts_41 : decode cX5_writeCosts 41 = .ok (.invokevirtual 52, 3) := by decide +kernel
theorem dX5_writeCosts_44 : decode cX5_writeCosts 44 = .ok (.aload_n 0, 1) := by decide +kernel
theorem dX5_writeCosts_45 : decode cX5_writeCosts 45 = .ok (.bipush 59, 2) := by decide +kernel
theorem dX5_writeCosts_47 : decode cX5_writeCosts 47 = .ok (.invokevirtual 44, 3) := by decide +kernel
theorem dX5_writeCosts_50 : decode cX5_writeCosts 50 = .ok (.iinc 1 1, 3) := by decide +kernel
theorem dX5_writeCosts_53 : decode cX5_writeCosts 53 = .ok (.goto (-51), 3) := by decide +kernel
theorem dX5_writeCosts_56 : decode cX5_writeCosts 56 = .ok (.return_, 1) := by decide +kernel
set_option maxRecDepth 20000 in
theorem ggX5_writeMusts_X4_mustTalk : GoodIn wsX5_writeMusts wsX4_mustTalk := goodIn_r _ [6, 7, 8, 9, 10, 11, 12, 13, 14, 15, 16, 5, 17, 18, 19, 20, 90, 91, 92, 93, 94, 95, 96] (by decide +kernel) (by decide +kernel)
set_option maxRecDepth 20000 in
theorem gX5_writeMusts_X4_mustTalk : GoodIn wsX5_writeMusts (wsV RX5 88 RX4 yX4_mustTalk wsX4_mustTalk) := goodIn_app (goodIn_of _ (by decide +kernel)) ggX5_writeMusts_X4_mustTalk
set_option maxRecDepth 20000 in
theorem ggX5_writeMusts_X5_put : GoodIn wsX5_writeMusts wsX5_put := goodIn_r _ [25, 26, 27, 28, 29, 30, 31, 32, 33, 34, 35, 36, 37, 38, 39, 40, 41, 42, 43, 44, 45, 46, 47, 48, 49, 50, 51, 52, 53, 54, 55, 56, 57, 58, 59, 60, 61, 62, 63, 64, 65, 66, 67, 68, 69, 70, 71, 72, 73, 74, 75, 76, 77, 24, 78, 79, 80, 81, 86, 87, 88, 89] (by decide +kernel) (by decide +kernel)
set_option maxRecDepth 20000 in
theorem gX5_writeMusts_X5_put : GoodIn wsX5_writeMusts (wsV RX5 36 RX5 yX5_put wsX5_put) := goodIn_app (goodIn_of _ (by decide +kernel)) ggX5_writeMusts_X5_put
set_option maxRecDepth 20000 in
theorem ggX5_writeMusts_X5_putNumber : GoodIn wsX5_writeMusts wsX5_putNumber := goodIn_r _ [85, 75, 76, 77, 24, 78, 79, 80, 81, 86, 87, 88, 89] (by decide +kernel) (by decide +kernel)
set_option maxRecDepth 20000 in
theorem gX5_writeMusts_X5_putNumber : GoodIn wsX5_writeMusts (wsV RX5 52 RX5 yX5_putNumber wsX5_putNumber) := goodIn_app (goodIn_of _ (by decide +kernel)) ggX5_writeMusts_X5_putNumber
