theorem dX6_cheapest_30 : decode cX6_cheapest 30 = .ok (.ifCond .ne 11, 3) := by decide +kernel
theorem dX6_cheapest_33 : decode cX6_cheapest 33 = .ok (.aload_n 0, 1) := by decide +kernel
theorem dX6_cheapest_34 : decode cX6_cheapest 34 = .ok (.getfield 56, 3) := by decide +kernel
theorem dX6_cheapest_37 : decode cX6_cheapest 37 = .ok (.invokevirtual 184, 3) := by decide +kernel
theorem dX6_cheapest_40 : decode cX6_cheapest 40 = .ok (.ireturn, 1) := by decide +kernel
theorem dX6_cheapest_41 : decode cX6_cheapest 41 = .ok (.iload_n 2, 1) := by decide +kernel
theorem dX6_cheapest_42 : decode cX6_cheapest 42 = .ok (.iconst 1, 1) := by decide +kernel
theorem dX6_cheapest_43 : decode cX6_cheapest 43 = .ok (.if_icmp .ne 13, 3) := by decide +kernel
theorem dX6_cheapest_46 : decode cX6_cheapest 46 = .ok (.aload_n 0, 1) := by decide +kernel
theorem dX6_cheapest_47 : decode cX6_cheapest 47 = .ok (.getfield 56, 3) := by decide +kernel
theorem dX6_cheapest_50 : decode cX6_cheapest 50 = .ok (.invokevirtual 187, 3) := by decide +kernel
theorem dX6_cheapest_53 : decode cX6_cheapest 53 = .ok (.goto 13, 3) := by decide +kernel
theorem dX6_cheapest_56 : decode cX6_cheapest 56 = .ok (.aload_n 0, 1) := by decide +kernel
theorem dX6_cheapest_57 : decode cX6_cheapest 57 = .ok (.getfield 56, 3) := by decide +kernel
theorem dX6_cheapest_60 : decode cX6_cheapest 60 = .ok (.invokevirtual 187, 3) := by decide +kernel
theorem dX6_cheapest_63 : decode cX6_cheapest 63 = .ok (.invokestatic 190, 3) := by decide +kernel
theorem dX6_cheapest_66 : decode cX6_cheapest 66 = .ok (.ireturn, 1) := by decide +kernel
theorem dX6_isFriend_0 : decode cX6_isFriend 0 = .ok (.iload_n 0, 1) := by decide +kernel
theorem dX6_isFriend_1 : decode cX6_isFriend 1 = .ok (.ifCond .lt 12, 3) := by decide +kernel
theorem dX6_isFriend_4 : decode cX6_isFriend 4 = .ok (.iload_n 0, 1) := by decide +kernel
theorem dX6_isFriend_5 : decode cX6_isFriend 5 = .ok (.iconst 5, 1) := by decide +kernel
theorem dX6_isFriend_6 : decode cX6_isFriend 6 = .ok (.if_icmp .ge 7, 3) := by decide +kernel
theorem dX6_isFriend_9 : decode cX6_isFriend 9 = .ok (.iconst 1, 1) := by decide +kernel
theorem dX6_isFriend_10 : decode cX6_isFriend 10 = .ok (.goto 4, 3) := by decide +kernel
theorem dX6_isFriend_13 : decode cX6_isFriend 13 = .ok (.iconst 0, 1) := by decide +kernel
theorem dX6_isFriend_14 : decode cX6_isFriend 14 = .ok (.ireturn, 1) := by decide +kernel
set_option maxRecDepth 20000 in
theorem ggX6_areUnlikeFriends_X6_isFriend : GoodIn wsX6_areUnlikeFriends wsX6_isFriend := goodIn_r _ [4] (by decide +kernel) (by decide +kernel)
set_option maxRecDepth 20000 in
theorem gX6_areUnlikeFriends_X6_isFriend : GoodIn wsX6_areUnlikeFriends (va_wsS RX6 95 yX6_isFriend wsX6_isFriend) := goodIn_app (goodIn_of _ (by decide +kernel)) ggX6_areUnlikeFriends_X6_isFriend
theorem dX6_areUnlikeFriends_0 : decode cX6_areUnlikeFriends 0 = .ok (.iload_n 0, 1) := by decide +kernel
theorem dX6_areUnlikeFriends_1 : decode cX6_areUnlikeFriends 1 = .ok (.invokestatic 95, 3) := by decide +kernel
theorem dX6_areUnlikeFriends_4 : decode cX6_areUnlikeFriends 4 = .ok (.ifCond .eq 19, 3) := by decide +kernel
theorem dX6_areUnlikeFriends_7 : decode cX6_areUnlikeFriends 7 = .ok (.iload_n 1, 1) := by decide +kernel
theorem dX6_areUnlikeFriends_8 : decode cX6_areUnlikeFriends 8 = .ok (.invokestatic 95, 3) := by decide +kernel
theorem dX6_areUnlikeFriends_11 : decode cX6_areUnlikeFriends 11 = .ok (.ifCond .eq 12, 3) := by decide +kernel
theorem dX6_areUnlikeFriends_14 : decode cX6_areUnlikeFriends 14 = .ok (.iload_n 0, 1) := by decide +kernel
theorem dX6_areUnlikeFriends_15 : decode cX6_areUnlikeFriends 15 = .ok (.iload_n 1, 1) := by decide +kernel
theorem dX6_areUnlikeFriends_16 : decode cX6_areUnlikeFriends 16 = .ok (.if_icmp .eq 7, 3) := by decide +kernel
theorem dX6_areUnlikeFriends_19 : decode cX6_areUnlikeFriends 19 = .ok (.iconst 1, 1) := by decide +kernel
theorem dX6_areUnlikeFriends_20 : decode cX6_areUnlikeFriends 20 = .ok (.goto 4, 3) := by decide +kernel
theorem dX6_areUnlikeFriends_23 : decode cX6_areUnlikeFriends 23 = .ok (.iconst 0, 1) := by decide +kernel
theorem dX6_areUnlikeFriends_24 : decode cX6_areUnlikeFriends 24 = .ok (.ireturn, 1) := by decide +kernel
theorem dX6_isFriendSet_0 : decode cX6_isFriendSet 0 = .ok (.iload_n 0, 1) := by decide +kernel
theorem dX6_isFriendSet_1 : decode cX6_isFriendSet 1 = .ok (.ifCond .lt 13, 3) := by decide +kernel
theorem dX6_isFriendSet_4 : decode cX6_isFriendSet 4 = .ok (.iload_n 0, 1) := by decide +kernel
theorem dX6_isFriendSet_5 : decode cX6_isFriendSet 5 = .ok (.bipush 31, 2) := by decide +kernel
theorem dX6_isFriendSet_7 : decode cX6_isFriendSet 7 = .ok (.if_icmp .gt 7, 3) := by decide +kernel
theorem dX6_isFriendSet_10 : decode cX6_isFriendSet 10 = .ok (.iconst 1, 1) := by decide +kernel
theorem dX6_isFriendSet_11 : decode cX6_isFriendSet 11 = .ok (.goto 4, 3) := by decide +kernel
theorem dX6_isFriendSet_14 : decode cX6_isFriendSet 14 = .ok (.iconst 0, 1) := by decide +kernel
theorem dX6_isFriendSet_15 : decode cX6_isFriendSet 15 = .ok (.ireturn, 1) := by decide +kernel
theorem dX6_isWay_0 : decode cX6_isWay 0 = .ok (.iload_n 0, 1) := by decide +kernel
theorem dX6_isWay_1 : decode cX6_isWay 1 = .ok (.ifCond .lt 12, 3) := by decide +kernel
theorem dX6_isWay_4 : decode cX6_isWay 4 = .ok (.iload_n 0, 1) := by decide +kernel
theorem dX6_isWay_5 : decode cX6_isWay 5 = .ok (.iconst 4, 1) := by decide +kernel
theorem dX6_isWay_6 : decode cX6_isWay 6 = .ok (.if_icmp .ge 7, 3) := by decide +kernel
theorem dX6_isWay_9 : decode cX6_isWay 9 = .ok (.iconst 1, 1) := by decide +kernel
theorem dX6_isWay_10 : decode cX6_isWay 10 = .ok (.goto 4, 3) := by decide +kernel
theorem dX6_isWay_13 : decode cX6_isWay 13 = .ok (.iconst 0, 1) := by decide +kernel
theorem dX6_isWay_14 : decode cX6_isWay 14 = .ok (.ireturn, 1) := by decide +kernel
theorem dX6_isWaySet_0 : decode cX6_isWaySet 0 = .ok (.iload_n 0, 1) := by decide +kernel
theorem dX6_isWaySet_1 : decode cX6_isWaySet 1 = .ok (.ifCond .lt 13, 3) := by decide +kernel
theorem dX6_isWaySet_4 : decode cX6_isWaySet 4 = .ok (.iload_n 0, 1) := by decide +kernel
theorem dX6_isWaySet_5 : decode cX6_isWaySet 5 = .ok (.bipush 15, 2) := by decide +kernel
theorem dX6_isWaySet_7 : decode cX6_isWaySet 7 = .ok (.if_icmp .gt 7, 3) := by decide +kernel
theorem dX6_isWaySet_10 : decode cX6_isWaySet 10 = .ok (.iconst 1, 1) := by decide +kernel
theorem dX6_isWaySet_11 : decode cX6_isWaySet 11 = .ok (.goto 4, 3) := by decide +kernel
theorem dX6_isWaySet_14 : decode cX6_isWaySet 14 = .ok (.iconst 0, 1) := by decide +kernel
theorem dX6_isWaySet_15 : decode cX6_isWaySet 15 = .ok (.ireturn, 1) := by decide +kernel
theorem dX6_isMend_0 : decode cX6_isMend 0 = .ok (.iload_n 0, 1) := by decide +kernel
theorem dX6_isMend_1 : decode cX6_isMend 1 = .ok (.ifCond .lt 13, 3) := by decide +kernel
theorem dX6_isMend_4 : decode cX6_isMend 4 = .ok (.iload_n 0, 1) := by decide +kernel
theorem dX6_isMend_5 : decode cX6_isMend 5 = .ok (.bipush 7, 2) := by decide +kernel
theorem dX6_isMend_7 : decode cX6_isMend 7 = .ok (.if_icmp .ge 7, 3) := by decide +kernel
theorem dX6_isMend_10 : decode cX6_isMend 10 = .ok (.iconst 1, 1) := by decide +kernel
theorem dX6_isMend_11 : decode cX6_isMend 11 = .ok (.goto 4, 3) := by decide +kernel
theorem dX6_isMend_14 : decode cX6_isMend 14 = .ok (.iconst 0, 1) := by decide +kernel
theorem dX6_isMend_15 : decode cX6_isMend 15 = .ok (.ireturn, 1) := by decide +kernel
theorem dX6_holds_0 : decode cX6_holds 0 = .ok (.iload_n 0, 1) := by decide +kernel
theorem dX6_holds_1 : decode cX6_holds 1 = .ok (.iload_n 1, 1) := by decide +kernel
theorem dX6_holds_2 : decode cX6_holds 2 = .ok (.ishr, 1) := by decide +kernel
theorem dX6_holds_3 : decode cX6_holds 3 = .ok (.iconst 1, 1) := by decide +kernel
theorem dX6_holds_4 : decode cX6_holds 4 = .ok (.iand, 1) := by decide +kernel
theorem dX6_holds_5 : decode cX6_holds 5 = .ok (.ifCond .eq 7, 3) := by decide +kernel
theorem dX6_holds_8 : decode cX6_holds 8 = .ok (.iconst 1, 1) := by decide +kernel
theorem dX6_holds_9 : decode cX6_holds 9 = .ok (.goto 4, 3) := by decide +kernel
theorem dX6_holds_12 : decode cX6_holds 12 = .ok (.iconst 0, 1) := by decide +kernel
theorem dX6_holds_13 : decode cX6_holds 13 = .ok (.ireturn, 1) := by decide +kernel
set_option maxRecDepth 20000 in
theorem ggX6_isPairOfRoom_X6_holds : GoodIn wsX6_isPairOfRoom wsX6_holds := goodIn_r _ [4] (by decide +kernel) (by decide +kernel)
set_option maxRecDepth 20000 in
theorem gX6_isPairOfRoom_X6_holds : GoodIn wsX6_isPairOfRoom (va_wsS RX6 195 yX6_holds wsX6_holds) := goodIn_app (goodIn_of _ (by decide +kernel)) ggX6_isPairOfRoom_X6_holds
theorem dX6_isPairOfRoom_0 : decode cX6_isPairOfRoom 0 = .ok (.iload_n 1, 1) := by decide +kernel
theorem dX6_isPairOfRoom_1 : decode cX6_isPairOfRoom 1 = .ok (.iconst 5, 1) := by decide +kernel
theorem dX6_isPairOfRoom_2 : decode cX6_isPairOfRoom 2 = .ok (.idiv, 1) := by decide +kernel
theorem dX6_isPairOfRoom_3 : decode cX6_isPairOfRoom 3 = .ok (.istore_n 2, 1) := by decide +kernel
theorem dX6_isPairOfRoom_4 : decode cX6_isPairOfRoom 4 = .ok (.iload_n 1, 1) := by decide +kernel
theorem dX6_isPairOfRoom_5 : decode cX6_isPairOfRoom 5 = .ok (.iconst 5, 1) := by decide +kernel
theorem dX6_isPairOfRoom_6 : decode cX6_isPairOfRoom 6 = .ok (.irem, 1) := by decide +kernel
theorem dX6_isPairOfRoom_7 : decode cX6_isPairOfRoom 7 = .ok (.istore_n 3, 1) := by decide +kernel
theorem dX6_isPairOfRoom_8 : decode cX6_isPairOfRoom 8 = .ok (.iload_n 2, 1) := by decide +kernel
theorem dX6_isPairOfRoom_9 : decode cX6_isPairOfRoom 9 = .ok (.iload_n 3, 1) := by decide +kernel
theorem dX6_isPairOfRoom_10 : decode cX6_isPairOfRoom 10 = .ok (.if_icmp .eq 23, 3) := by decide +kernel
theorem dX6_isPairOfRoom_13 : decode cX6_isPairOfRoom 13 = .ok (.iload_n 0, 1) := by decide +kernel
theorem dX6_isPairOfRoom_14 : decode cX6_isPairOfRoom 14 = .ok (.iload_n 2, 1) := by decide +kernel
theorem dX6_isPairOfRoom_15 : decode cX6_isPairOfRoom 15 = .ok (.invokestatic 195, 3) := by decide +kernel
theorem dX6_isPairOfRoom_18 : decode cX6_isPairOfRoom 18 = .ok (.ifCond .eq 15, 3) := by decide +kernel
theorem dX6_isPairOfRoom_21 : decode cX6_isPairOfRoom 21 = .ok (.iload_n 0, 1) := by decide +kernel
theorem dX6_isPairOfRoom_22 : decode cX6_isPairOfRoom 22 = .ok (.iload_n 3, 1) := by decide +kernel
theorem dX6_isPairOfRoom_23 : decode cX6_isPairOfRoom 23 = .ok (.invokestatic 195, 3) := by decide +kernel
theorem dX6_isPairOfRoom_26 : decode cX6_isPairOfRoom 26 = .ok (.ifCond .eq 7, 3) := by decide +kernel
theorem dX6_isPairOfRoom_29 : decode cX6_isPairOfRoom 29 = .ok (.iconst 1, 1) := by decide +kernel
theorem dX6_isPairOfRoom_30 : decode cX6_isPairOfRoom 30 = .ok (.goto 4, 3) := by decide +kernel
theorem dX6_isPairOfRoom_33 : decode cX6_isPairOfRoom 33 = .ok (.iconst 0, 1) := by decide +kernel
theorem dX6_isPairOfRoom_34 : decode cX6_isPairOfRoom 34 = .ok (.ireturn, 1) := by decide +kernel
theorem dX6_greatestOf_0 : decode cX6_greatestOf 0 = .ok (.iconst 3, 1) := by decide +kernel
theorem dX6_greatestOf_1 : decode cX6_greatestOf 1 = .ok (.istore_n 1, 1) := by decide +kernel
theorem dX6_greatestOf_2 : decode cX6_greatestOf 2 = .ok (.iload_n 1, 1) := by decide +kernel
theorem dX6_greatestOf_3 : decode cX6_greatestOf 3 = .ok (.ifCond .lt 19, 3) := by decide +kernel
theorem dX6_greatestOf_6 : decode cX6_greatestOf 6 = .ok (.iload_n 0, 1) := by decide +kernel
theorem dX6_greatestOf_7 : decode cX6_greatestOf 7 = .ok (.iload_n 1, 1) := by decide +kernel
theorem dX6_greatestOf_8 : decode cX6_greatestOf 8 = .ok (.ishr, 1) := by decide +kernel
theorem dX6_greatestOf_9 : decode cX6_greatestOf 9 = .ok (.iconst 1, 1) := by decide +kernel
theorem dX6_greatestOf_10 : decode cX6_greatestOf 10 = .ok (.iand, 1) := by decide +kernel
theorem dX6_greatestOf_11 : decode cX6_greatestOf 11 = .ok (.ifCond .eq 5, 3) := by decide +kernel
theorem dX6_greatestOf_14 : decode cX6_greatestOf 14 = .ok (.iload_n 1, 1) := by decide +kernel
theorem dX6_greatestOf_15 : decode cX6_greatestOf 15 = .ok (.ireturn, 1) := by decide +kernel
theorem dX6_greatestOf_16 : decode cX6_greatestOf 16 = .ok (.iinc 1 (-1), 3) := by decide +kernel
theorem dX6_greatestOf_19 : decode cX6_greatestOf 19 = .ok (.goto (-17), 3) := by decide +kernel
theorem dX6_greatestOf_22 : decode cX6_greatestOf 22 = .ok (.iconst (-1), 1) := by decide +kernel
theorem dX6_greatestOf_23 : decode cX6_greatestOf 23 = .ok (.ireturn, 1) := by decide +kernel
set_option maxRecDepth 20000 in
theorem ggX7_init_X7_begins : GoodIn wsX7_init wsX7_begins := goodIn_r _ [16, 5, 21, 22, 23, 24, 25, 26, 27, 28, 29, 30, 31, 32, 33, 34, 35, 36, 37, 38] (by decide +kernel) (by decide +kernel)
set_option maxRecDepth 20000 in
theorem gX7_init_X7_begins : GoodIn wsX7_init (wsV RX7 30 RX7 yX7_begins wsX7_begins) := goodIn_app (goodIn_of _ (by decide +kernel)) ggX7_init_X7_begins
set_option maxRecDepth 20000 in
theorem ggX7_init_X7_forgets : GoodIn wsX7_init wsX7_forgets := goodIn_r _ [20, 6, 21, 22, 23, 24, 25, 26, 27, 28, 29, 30, 31, 32, 33, 34, 35, 36, 37, 38] (by decide +kernel) (by decide +kernel)
set_option maxRecDepth 20000 in
theorem gX7_init_X7_forgets : GoodIn wsX7_init (wsV RX7 34 RX7 yX7_forgets wsX7_forgets) := goodIn_app (goodIn_of _ (by decide +kernel)) ggX7_init_X7_forgets
theorem dX7_init_0 : decode cX7_init 0 = .ok (.aload_n 0, 1) := by decide +kernel
theorem dX7_init_1 : decode cX7_init 1 = .ok (.invokespecial 1, 3) := by decide +kernel
theorem dX7_init_4 : decode cX7_init 4 = .ok (.aload_n 0, 1) := by decide +kernel
theorem dX7_init_5 : decode cX7_init 5 = .ok (.bipush 50, 2) := by decide +kernel
theorem dX7_init_7 : decode cX7_init 7 = .ok (.newarray .int, 2) := by decide +kernel
theorem dX7_init_9 : decode cX7_init 9 = .ok (.putfield 7, 3) := by decide +kernel
theorem dX7_init_12 : decode cX7_init 12 = .ok (.aload_n 0, 1) := by decide +kernel
theorem dX7_init_13 : decode cX7_init 13 = .ok (.bipush 25, 2) := by decide +kernel
theorem dX7_init_15 : decode cX7_init 15 = .ok (.newarray .int, 2) := by decide +kernel
theorem dX7_init_17 : decode cX7_init 17 = .ok (.putfield 13, 3) := by decide +kernel
theorem dX7_init_20 : decode cX7_init 20 = .ok (.aload_n 0, 1) := by decide +kernel
theorem dX7_init_21 : decode cX7_init 21 = .ok (.sipush 600, 3) := by decide +kernel
theorem dX7_init_24 : decode cX7_init 24 = .ok (.newarray .byte, 2) := by decide +kernel
theorem dX7_init_26 : decode cX7_init 26 = .ok (.putfield 16, 3) := by decide +kernel
theorem dX7_init_29 : decode cX7_init 29 = .ok (.aload_n 0, 1) := by decide +kernel
theorem dX7_init_30 : decode cX7_init 30 = .ok (.sipush 600, 3) := by decide +kernel
theorem dX7_init_33 : decode cX7_init 33 = .ok (.newarray .byte, 2) := by decide +kernel
theorem dX7_init_35 : decode cX7_init 35 = .ok (.putfield 20, 3) := by decide +kernel
theorem dX7_init_38 : decode cX7_init 38 = .ok (.aload_n 0, 1) := by decide +kernel
theorem dX7_init_39 : decode cX7_init 39 = .ok (.iconst (-1), 1) := by decide +kernel
theorem dX7_init_40 : decode cX7_init 40 = .ok (.putfield 23, 3) := by decide +kernel
theorem dX7_init_43 : decode cX7_init 43 = .ok (.aload_n 0, 1) := by decide +kernel
theorem dX7_init_44 : decode cX7_init 44 = .ok (.sipush 600, 3) := by decide +kernel
theorem dX7_init_47 : decode cX7_init 47 = .ok (.newarray .byte, 2) := by decide +kernel
theorem dX7_init_49 : decode cX7_init 49 = .ok (.putfield 27, 3) := by decide +kernel
theorem dX7_init_52 : decode cX7_init 52 = .ok (.aload_n 0, 1) := by decide +kernel
theorem dX7_init_53 : decode cX7_init 53 = .ok (.iconst 0, 1) := by decide +kernel
theorem dX7_init_54 : decode cX7_init 54 = .ok (.invokevirtual 30, 3) := by decide +kernel
theorem dX7_init_57 : decode cX7_init 57 = .ok (.aload_n 0, 1) := by decide +kernel
theorem dX7_init_58 : decode cX7_init 58 = .ok (.invokevirtual 34, 3) := by decide +kernel
theorem dX7_init_61 : decode cX7_init 61 = .ok (.return_, 1) := by decide +kernel
theorem dX7_begins_0 : decode cX7_begins 0 = .ok (.iconst 0, 1) := by decide +kernel
theorem dX7_begins_1 : decode cX7_begins 1 = .ok (.istore_n 2, 1) := by decide +kernel
theorem dX7_begins_2 : decode cX7_begins 2 = .ok (.iload_n 2, 1) := by decide +kernel
theorem dX7_begins_3 : decode cX7_begins 3 = .ok (.bipush 25, 2) := by decide +kernel
theorem dX7_begins_5 : decode cX7_begins 5 = .ok (.if_icmp .ge 35, 3) := by decide +kernel
theorem dX7_begins_8 : decode cX7_begins 8 = .ok (.aload_n 0, 1) := by decide +kernel
theorem dX7_begins_9 : decode cX7_begins 9 = .ok (.getfield 7, 3) := by decide +kernel
theorem dX7_begins_12 : decode cX7_begins 12 = .ok (.iload_n 1, 1) := by decide +kernel
theorem dX7_begins_13 : decode cX7_begins 13 = .ok (.iload_n 2, 1) := by decide +kernel
theorem dX7_begins_14 : decode cX7_begins 14 = .ok (.iadd, 1) := by decide +kernel
theorem dX7_begins_15 : decode cX7_begins 15 = .ok (.iload_n 2, 1) := by decide +kernel
theorem dX7_begins_16 : decode cX7_begins 16 = .ok (.bipush 8, 2) := by decide +kernel
theorem dX7_begins_18 : decode cX7_begins 18 = .ok (.if_icmp .lt 14, 3) := by decide +kernel
theorem dX7_begins_21 : decode cX7_begins 21 = .ok (.iload_n 2, 1) := by decide +kernel
theorem dX7_begins_22 : decode cX7_begins 22 = .ok (.bipush 15, 2) := by decide +kernel
theorem dX7_begins_24 : decode cX7_begins 24 = .ok (.if_icmp .ge 8, 3) := by decide +kernel
theorem dX7_begins_27 : decode cX7_begins 27 = .ok (.bipush 10, 2) := by decide +kernel
theorem dX7_begins_29 : decode cX7_begins 29 = .ok (.goto 4, 3) := by decide +kernel
theorem dX7_begins_32 : decode cX7_begins 32 = .ok (.iconst 0, 1) := by decide +kernel
theorem dX7_begins_33 : decode cX7_begins 33 = .ok (.iastore, 1) := by decide +kernel
theorem dX7_begins_34 : decode cX7_begins 34 = .ok (.iinc 2 1, 3) := by decide +kernel
theorem dX7_begins_37 : decode cX7_begins 37 = .ok (.goto (-35), 3) := by decide +kernel
theorem dX7_begins_40 : decode cX7_begins 40 = .ok (.return_, 1) := by decide +kernel
theorem dX7_forgets_0 : decode cX7_forgets 0 = .ok (.iconst 0, 1) := by decide +kernel
theorem dX7_forgets_1 : decode cX7_forgets 1 = .ok (.istore_n 1, 1) := by decide +kernel
theorem dX7_forgets_2 : decode cX7_forgets 2 = .ok (.iload_n 1, 1) := by decide +kernel
theorem dX7_forgets_3 : decode cX7_forgets 3 = .ok (.bipush 25, 2) := by decide +kernel
theorem dX7_forgets_5 : decode cX7_forgets 5 = .ok (.if_icmp .ge 16, 3) := by decide +kernel
theorem dX7_forgets_8 : decode cX7_forgets 8 = .ok (.aload_n 0, 1) := by decide +kernel
theorem dX7_forgets_9 : decode cX7_forgets 9 = .ok (.getfield 13, 3) := by decide +kernel
theorem dX7_forgets_12 : decode cX7_forgets 12 = .ok (.iload_n 1, 1) := by decide +kernel
theorem dX7_forgets_13 : decode cX7_forgets 13 = .ok (.iconst (-1), 1) := by decide +kernel
theorem dX7_forgets_14 : decode cX7_forgets 14 = .ok (.iastore, 1) := by decide +kernel
theorem dX7_forgets_15 : decode cX7_forgets 15 = .ok (.iinc 1 1, 3) := by decide +kernel
theorem dX7_forgets_18 : decode cX7_forgets 18 = .ok (.goto (-16), 3) := by decide +kernel
theorem dX7_forgets_21 : decode cX7_forgets 21 = .ok (.return_, 1) := by decide +kernel
theorem dX7_isIn_0 : decode cX7_isIn 0 = .ok (.iload_n 0, 1) := by decide +kernel
theorem dX7_isIn_1 : decode cX7_isIn 1 = .ok (.iload_n 1, 1) := by decide +kernel
theorem dX7_isIn_2 : decode cX7_isIn 2 = .ok (.if_icmp .lt 12, 3) := by decide +kernel
theorem dX7_isIn_5 : decode cX7_isIn 5 = .ok (.iload_n 0, 1) := by decide +kernel
theorem dX7_isIn_6 : decode cX7_isIn 6 = .ok (.iload_n 2, 1) := by decide +kernel
theorem dX7_isIn_7 : decode cX7_isIn 7 = .ok (.if_icmp .gt 7, 3) := by decide +kernel
theorem dX7_isIn_10 : decode cX7_isIn 10 = .ok (.iconst 1, 1) := by decide +kernel
theorem dX7_isIn_11 : decode cX7_isIn 11 = .ok (.goto 4, 3) := by decide +kernel
theorem dX7_isIn_14 : decode cX7_isIn 14 = .ok (.iconst 0, 1) := by decide +kernel
theorem dX7_isIn_15 : decode cX7_isIn 15 = .ok (.ireturn, 1) := by decide +kernel
set_option maxRecDepth 20000 in
theorem ggX7_isFriend_X7_isIn : GoodIn wsX7_isFriend wsX7_isIn := goodIn_r _ [4] (by decide +kernel) (by decide +kernel)
set_option maxRecDepth 20000 in
theorem gX7_isFriend_X7_isIn : GoodIn wsX7_isFriend (va_wsS RX7 37 yX7_isIn wsX7_isIn) := goodIn_app (goodIn_of _ (by decide +kernel)) ggX7_isFriend_X7_isIn
theorem dX7_isFriend_0 : decode cX7_isFriend 0 = .ok (.iload_n 0, 1) := by decide +kernel
theorem dX7_isFriend_1 : decode cX7_isFriend 1 = .ok (.iconst 0, 1) := by decide +kernel
theorem dX7_isFriend_2 : decode cX7_isFriend 2 = .ok (.iconst 4, 1) := by decide +kernel
theorem dX7_isFriend_3 : decode cX7_isFriend 3 = .ok (.invokestatic 37, 3) := by decide +kernel
theorem dX7_isFriend_6 : decode cX7_isFriend 6 = .ok (.ireturn, 1) := by decide +kernel
set_option maxRecDepth 20000 in
theorem ggX7_areFriends_X7_isFriend : GoodIn wsX7_areFriends wsX7_isFriend := goodIn_r _ [4, 5, 6, 3, 7] (by decide +kernel) (by decide +kernel)
set_option maxRecDepth 20000 in
theorem gX7_areFriends_X7_isFriend : GoodIn wsX7_areFriends (va_wsS RX7 41 yX7_isFriend wsX7_isFriend) := goodIn_app (goodIn_of _ (by decide +kernel)) ggX7_areFriends_X7_isFriend
theorem dX7_areFriends_0 : decode cX7_areFriends 0 = .ok (.iload_n 0, 1) := by decide +kernel
theorem dX7_areFriends_1 : decode cX7_areFriends 1 = .ok (.invokestatic 41, 3) := by decide +kernel
theorem dX7_areFriends_4 : decode cX7_areFriends 4 = .ok (.ifCond .eq 19, 3) := by decide +kernel
theorem dX7_areFriends_7 : decode cX7_areFriends 7 = .ok (.iload_n 1, 1) := by decide +kernel
theorem dX7_areFriends_8 : decode cX7_areFriends 8 = .ok (.invokestatic 41, 3) := by decide +kernel
theorem dX7_areFriends_11 : decode cX7_areFriends 11 = .ok (.ifCond .eq 12, 3) := by decide +kernel
theorem dX7_areFriends_14 : decode cX7_areFriends 14 = .ok (.iload_n 0, 1) := by decide +kernel
theorem dX7_areFriends_15 : decode cX7_areFriends 15 = .ok (.iload_n 1, 1) := by decide +kernel
theorem dX7_areFriends_16 : decode cX7_areFriends 16 = .ok (.if_icmp .eq 7, 3) := by decide +kernel
theorem dX7_areFriends_19 : decode cX7_areFriends 19 = .ok (.iconst 1, 1) := by decide +kernel
theorem dX7_areFriends_20 : decode cX7_areFriends 20 = .ok (.goto 4, 3) := by decide +kernel
theorem dX7_areFriends_23 : decode cX7_areFriends 23 = .ok (.iconst 0, 1) := by decide +kernel
theorem dX7_areFriends_24 : decode cX7_areFriends 24 = .ok (.ireturn, 1) := by decide +kernel
theorem dX7_one_0 : decode cX7_one 0 = .ok (.iload_n 0, 1) := by decide +kernel
theorem dX7_one_1 : decode cX7_one 1 = .ok (.ifCond .eq 7, 3) := by decide +kernel
theorem dX7_one_4 : decode cX7_one 4 = .ok (.iconst 1, 1) := by decide +kernel
theorem dX7_one_5 : decode cX7_one 5 = .ok (.goto 4, 3) := by decide +kernel
theorem dX7_one_8 : decode cX7_one 8 = .ok (.iconst 0, 1) := by decide +kernel
theorem dX7_one_9 : decode cX7_one 9 = .ok (.ireturn, 1) := by decide +kernel
set_option maxRecDepth 20000 in
theorem ggX7_ways_X7_isFriend : GoodIn wsX7_ways wsX7_isFriend := goodIn_r _ [5, 6, 7, 4, 8] (by decide +kernel) (by decide +kernel)
set_option maxRecDepth 20000 in
theorem gX7_ways_X7_isFriend : GoodIn wsX7_ways (va_wsS RX7 41 yX7_isFriend wsX7_isFriend) := goodIn_app (goodIn_of _ (by decide +kernel)) ggX7_ways_X7_isFriend
set_option maxRecDepth 20000 in
theorem ggX7_ways_X7_isIn : GoodIn wsX7_ways wsX7_isIn := goodIn_r _ [8] (by decide +kernel) (by decide +kernel)
set_option maxRecDepth 20000 in
theorem gX7_ways_X7_isIn : GoodIn wsX7_ways (va_wsS RX7 37 yX7_isIn wsX7_isIn) := goodIn_app (goodIn_of _ (by decide +kernel)) ggX7_ways_X7_isIn
theorem dX7_ways_0 : decode cX7_ways 0 = .ok (.iload_n 1, 1) := by decide +kernel
theorem dX7_ways_1 : decode cX7_ways 1 = .ok (.invokestatic 41, 3) := by decide +kernel
theorem dX7_ways_4 : decode cX7_ways 4 = .ok (.ifCond .eq 13, 3) := by decide +kernel
theorem dX7_ways_7 : decode cX7_ways 7 = .ok (.iload_n 2, 1) := by decide +kernel
theorem dX7_ways_8 : decode cX7_ways 8 = .ok (.iconst 0, 1) := by decide +kernel
theorem dX7_ways_9 : decode cX7_ways 9 = .ok (.bipush 15, 2) := by decide +kernel
theorem dX7_ways_11 : decode cX7_ways 11 = .ok (.invokestatic 37, 3) := by decide +kernel
theorem dX7_ways_14 : decode cX7_ways 14 = .ok (.ifCond .ne 5, 3) := by decide +kernel
theorem dX7_ways_17 : decode cX7_ways 17 = .ok (.iconst 0, 1) := by decide +kernel
theorem dX7_ways_18 : decode cX7_ways 18 = .ok (.ireturn, 1) := by decide +kernel
theorem dX7_ways_19 : decode cX7_ways 19 = .ok (.aload_n 0, 1) := by decide +kernel
theorem dX7_ways_20 : decode cX7_ways 20 = .ok (.getfield 7, 3) := by decide +kernel
theorem dX7_ways_23 : decode cX7_ways 23 = .ok (.iload_n 1, 1) := by decide +kernel
theorem dX7_ways_24 : decode cX7_ways 24 = .ok (.iload_n 2, 1) := by decide +kernel
theorem dX7_ways_25 : decode cX7_ways 25 = .ok (.iastore, 1) := by decide +kernel
theorem dX7_ways_26 : decode cX7_ways 26 = .ok (.iconst 1, 1) := by decide +kernel
theorem dX7_ways_27 : decode cX7_ways 27 = .ok (.ireturn, 1) := by decide +kernel
set_option maxRecDepth 20000 in
theorem ggX7_broken_X7_isIn : GoodIn wsX7_broken wsX7_isIn := goodIn_r _ [5] (by decide +kernel) (by decide +kernel)
set_option maxRecDepth 20000 in
theorem gX7_broken_X7_isIn : GoodIn wsX7_broken (va_wsS RX7 37 yX7_isIn wsX7_isIn) := goodIn_app (goodIn_of _ (by decide +kernel)) ggX7_broken_X7_isIn
theorem dX7_broken_0 : decode cX7_broken 0 = .ok (.iload_n 1, 1) := by decide +kernel
theorem dX7_broken_1 : decode cX7_broken 1 = .ok (.iconst 0, 1) := by decide +kernel
theorem dX7_broken_2 : decode cX7_broken 2 = .ok (.bipush 15, 2) := by decide +kernel
theorem dX7_broken_4 : decode cX7_broken 4 = .ok (.invokestatic 37, 3) := by decide +kernel
theorem dX7_broken_7 : decode cX7_broken 7 = .ok (.ifCond .ne 5, 3) := by decide +kernel
theorem dX7_broken_10 : decode cX7_broken 10 = .ok (.iconst 0, 1) := by decide +kernel
theorem dX7_broken_11 : decode cX7_broken 11 = .ok (.ireturn, 1) := by decide +kernel
theorem dX7_broken_12 : decode cX7_broken 12 = .ok (.aload_n 0, 1) := by decide +kernel
theorem dX7_broken_13 : decode cX7_broken 13 = .ok (.getfield 7, 3) := by decide +kernel
theorem dX7_broken_16 : decode cX7_broken 16 = .ok (.iconst 5, 1) := by decide +kernel
theorem dX7_broken_17 : decode cX7_broken 17 = .ok (.iload_n 1, 1) := by decide +kernel
theorem dX7_broken_18 : decode cX7_broken 18 = .ok (.iastore, 1) := by decide +kernel
theorem dX7_broken_19 : decode cX7_broken 19 = .ok (.iconst 1, 1) := by decide +kernel
theorem dX7_broken_20 : decode cX7_broken 20 = .ok (.ireturn, 1) := by decide +kernel
set_option maxRecDepth 20000 in
theorem ggX7_retries_X7_isIn : GoodIn wsX7_retries wsX7_isIn := goodIn_r _ [5] (by decide +kernel) (by decide +kernel)
set_option maxRecDepth 20000 in
theorem gX7_retries_X7_isIn : GoodIn wsX7_retries (va_wsS RX7 37 yX7_isIn wsX7_isIn) := goodIn_app (goodIn_of _ (by decide +kernel)) ggX7_retries_X7_isIn
theorem dX7_retries_0 : decode cX7_retries 0 = .ok (.iload_n 1, 1) := by decide +kernel
theorem dX7_retries_1 : decode cX7_retries 1 = .ok (.iconst 0, 1) := by decide +kernel
theorem dX7_retries_2 : decode cX7_retries 2 = .ok (.iconst 3, 1) := by decide +kernel
theorem dX7_retries_3 : decode cX7_retries 3 = .ok (.invokestatic 37, 3) := by decide +kernel
theorem dX7_retries_6 : decode cX7_retries 6 = .ok (.ifCond .ne 5, 3) := by decide +kernel
theorem dX7_retries_9 : decode cX7_retries 9 = .ok (.iconst 0, 1) := by decide +kernel
theorem dX7_retries_10 : decode cX7_retries 10 = .ok (.ireturn, 1) := by decide +kernel
theorem dX7_retries_11 : decode cX7_retries 11 = .ok (.aload_n 0, 1) := by decide +kernel
theorem dX7_retries_12 : decode cX7_retries 12 = .ok (.getfield 7, 3) := by decide +kernel
theorem dX7_retries_15 : decode cX7_retries 15 = .ok (.bipush 6, 2) := by decide +kernel
theorem dX7_retries_17 : decode cX7_retries 17 = .ok (.iload_n 1, 1) := by decide +kernel
theorem dX7_retries_18 : decode cX7_retries 18 = .ok (.iastore, 1) := by decide +kernel
theorem dX7_retries_19 : decode cX7_retries 19 = .ok (.iconst 1, 1) := by decide +kernel
theorem dX7_retries_20 : decode cX7_retries 20 = .ok (.ireturn, 1) := by decide +kernel
set_option maxRecDepth 20000 in
theorem ggX7_mend_X7_isIn : GoodIn wsX7_mend wsX7_isIn := goodIn_r _ [5] (by decide +kernel) (by decide +kernel)
set_option maxRecDepth 20000 in
theorem gX7_mend_X7_isIn : GoodIn wsX7_mend (va_wsS RX7 37 yX7_isIn wsX7_isIn) := goodIn_app (goodIn_of _ (by decide +kernel)) ggX7_mend_X7_isIn
set_option maxRecDepth 20000 in
theorem ggX7_mend_X7_one : GoodIn wsX7_mend wsX7_one := goodIn_r _ [8] (by decide +kernel) (by decide +kernel)
set_option maxRecDepth 20000 in
theorem gX7_mend_X7_one : GoodIn wsX7_mend (va_wsS RX7 45 yX7_one wsX7_one) := goodIn_app (goodIn_of _ (by decide +kernel)) ggX7_mend_X7_one
theorem dX7_mend_0 : decode cX7_mend 0 = .ok (.iload_n 1, 1) := by decide +kernel
theorem dX7_mend_1 : decode cX7_mend 1 = .ok (.iconst 0, 1) := by decide +kernel
theorem dX7_mend_2 : decode cX7_mend 2 = .ok (.bipush 6, 2) := by decide +kernel
theorem dX7_mend_4 : decode cX7_mend 4 = .ok (.invokestatic 37, 3) := by decide +kernel
theorem dX7_mend_7 : decode cX7_mend 7 = .ok (.ifCond .eq 21, 3) := by decide +kernel
theorem dX7_mend_10 : decode cX7_mend 10 = .ok (.aload_n 0, 1) := by decide +kernel
theorem dX7_mend_11 : decode cX7_mend 11 = .ok (.getfield 7, 3) := by decide +kernel
theorem dX7_mend_14 : decode cX7_mend 14 = .ok (.bipush 7, 2) := by decide +kernel
theorem dX7_mend_16 : decode cX7_mend 16 = .ok (.iaload, 1) := by decide +kernel
theorem dX7_mend_17 : decode cX7_mend 17 = .ok (.iload_n 1, 1) := by decide +kernel
theorem dX7_mend_18 : decode cX7_mend 18 = .ok (.ishr, 1) := by decide +kernel
theorem dX7_mend_19 : decode cX7_mend 19 = .ok (.iconst 1, 1) := by decide +kernel
theorem dX7_mend_20 : decode cX7_mend 20 = .ok (.iand, 1) := by decide +kernel
theorem dX7_mend_21 : decode cX7_mend 21 = .ok (.iload_n 2, 1) := by decide +kernel
theorem dX7_mend_22 : decode cX7_mend 22 = .ok (.invokestatic 45, 3) := by decide +kernel
theorem dX7_mend_25 : decode cX7_mend 25 = .ok (.if_icmp .ne 5, 3) := by decide +kernel
theorem dX7_mend_28 : decode cX7_mend 28 = .ok (.iconst 0, 1) := by decide +kernel
theorem dX7_mend_29 : decode cX7_mend 29 = .ok (.ireturn, 1) := by decide +kernel
theorem dX7_mend_30 : decode cX7_mend 30 = .ok (.aload_n 0, 1) := by decide +kernel
theorem dX7_mend_31 : decode cX7_mend 31 = .ok (.getfield 7, 3) := by decide +kernel
theorem dX7_mend_34 : decode cX7_mend 34 = .ok (.bipush 7, 2) := by decide +kernel
theorem dX7_mend_36 : decode cX7_mend 36 = .ok (.dup2, 1) := by decide +kernel
theorem dX7_mend_37 : decode cX7_mend 37 = .ok (.iaload, 1) := by decide +kernel
theorem dX7_mend_38 : decode cX7_mend 38 = .ok (.iconst 1, 1) := by decide +kernel
theorem dX7_mend_39 : decode cX7_mend 39 = .ok (.iload_n 1, 1) := by decide +kernel
theorem dX7_mend_40 : decode cX7_mend 40 = .ok (.ishl, 1) := by decide +kernel
theorem dX7_mend_41 : decode cX7_mend 41 = .ok (.ixor, 1) := by decide +kernel
theorem dX7_mend_42 : decode cX7_mend 42 = .ok (.iastore, 1) := by decide +kernel
theorem dX7_mend_43 : decode cX7_mend 43 = .ok (.iconst 1, 1) := by decide +kernel
theorem dX7_mend_44 : decode cX7_mend 44 = .ok (.ireturn, 1) := by decide +kernel
set_option maxRecDepth 20000 in
theorem ggX7_cost_X7_isIn : GoodIn wsX7_cost wsX7_isIn := goodIn_r _ [5] (by decide +kernel) (by decide +kernel)
set_option maxRecDepth 20000 in
theorem gX7_cost_X7_isIn : GoodIn wsX7_cost (va_wsS RX7 37 yX7_isIn wsX7_isIn) := goodIn_app (goodIn_of _ (by decide +kernel)) ggX7_cost_X7_isIn
theorem dX7_cost_0 : decode cX7_cost 0 = .ok (.iload_n 1, 1) := by decide +kernel
theorem dX7_cost_1 : decode cX7_cost 1 = .ok (.iconst 0, 1) := by decide +kernel
theorem dX7_cost_2 : decode cX7_cost 2 = .ok (.bipush 6, 2) := by decide +kernel
theorem dX7_cost_4 : decode cX7_cost 4 = .ok (.invokestatic 37, 3) := by decide +kernel
theorem dX7_cost_7 : decode cX7_cost 7 = .ok (.ifCond .eq 13, 3) := by decide +kernel
theorem dX7_cost_10 : decode cX7_cost 10 = .ok (.iload_n 2, 1) := by decide +kernel
theorem dX7_cost_11 : decode cX7_cost 11 = .ok (.iconst 0, 1) := by decide +kernel
theorem dX7_cost_12 : decode cX7_cost 12 = .ok (.bipush 100, 2) := by decide +kernel
theorem dX7_cost_14 : decode cX7_cost 14 = .ok (.invokestatic 37, 3) := by decide +kernel
theorem dX7_cost_17 : decode cX7_cost 17 = .ok (.ifCond .ne 5, 3) := by decide +kernel
theorem dX7_cost_20 : decode cX7_cost 20 = .ok (.iconst 0, 1) := by decide +kernel
theorem dX7_cost_21 : decode cX7_cost 21 = .ok (.ireturn, 1) := by decide +kernel
theorem dX7_cost_22 : decode cX7_cost 22 = .ok (.aload_n 0, 1) := by decide +kernel
theorem dX7_cost_23 : decode cX7_cost 23 = .ok (.getfield 7, 3) := by decide +kernel
theorem dX7_cost_26 : decode cX7_cost 26 = .ok (.bipush 8, 2) := by decide +kernel
theorem dX7_cost_28 : decode cX7_cost 28 = .ok (.iload_n 1, 1) := by decide +kernel
theorem dX7_cost_29 : decode cX7_cost 29 = .ok (.iadd, 1) := by decide +kernel
theorem dX7_cost_30 : decode cX7_cost 30 = .ok (.iload_n 2, 1) := by decide +kernel
theorem dX7_cost_31 : decode cX7_cost 31 = .ok (.iastore, 1) := by decide +kernel
theorem dX7_cost_32 : decode cX7_cost 32 = .ok (.iconst 1, 1) := by decide +kernel
theorem dX7_cost_33 : decode cX7_cost 33 = .ok (.ireturn, 1) := by decide +kernel
theorem dX7_pair_0 : decode cX7_pair 0 = .ok (.iload_n 0, 1) := by decide +kernel
theorem dX7_pair_1 : decode cX7_pair 1 = .ok (.iload_n 1, 1) := by decide +kernel
theorem dX7_pair_2 : decode cX7_pair 2 = .ok (.invokestatic 49, 3) := by decide +kernel
theorem dX7_pair_5 : decode cX7_pair 5 = .ok (.istore_n 2, 1) := by decide +kernel
theorem dX7_pair_6 : decode cX7_pair 6 = .ok (.iload_n 0, 1) := by decide +kernel
theorem dX7_pair_7 : decode cX7_pair 7 = .ok (.iload_n 1, 1) := by decide +kernel
theorem dX7_pair_8 : decode cX7_pair 8 = .ok (.invokestatic 55, 3) := by decide +kernel
theorem dX7_pair_11 : decode cX7_pair 11 = .ok (.istore_n 3, 1) := by decide +kernel
theorem dX7_pair_12 : decode cX7_pair 12 = .ok (.iload_n 2, 1) := by decide +kernel
theorem dX7_pair_13 : decode cX7_pair 13 = .ok (.ifCond .ne 9, 3) := by decide +kernel
theorem dX7_pair_16 : decode cX7_pair 16 = .ok (.iload_n 3, 1) := by decide +kernel
theorem dX7_pair_17 : decode cX7_pair 17 = .ok (.iconst 1, 1) := by decide +kernel
theorem dX7_pair_18 : decode cX7_pair 18 = .ok (.isub, 1) := by decide +kernel
theorem dX7_pair_19 : decode cX7_pair 19 = .ok (.goto 27, 3) := by decide +kernel
theorem dX7_pair_22 : decode cX7_pair 22 = .ok (.iload_n 2, 1) := by decide +kernel
theorem dX7_pair_23 : decode cX7_pair 23 = .ok (.iconst 1, 1) := by decide +kernel
theorem dX7_pair_24 : decode cX7_pair 24 = .ok (.if_icmp .ne 9, 3) := by decide +kernel
theorem dX7_pair_27 : decode cX7_pair 27 = .ok (.iload_n 3, 1) := by decide +kernel
theorem dX7_pair_28 : decode cX7_pair 28 = .ok (.iconst 2, 1) := by decide +kernel
theorem dX7_pair_29 : decode cX7_pair 29 = .ok (.iadd, 1) := by decide +kernel
theorem dX7_pair_30 : decode cX7_pair 30 = .ok (.goto 16, 3) := by decide +kernel
theorem dX7_pair_33 : decode cX7_pair 33 = .ok (.iload_n 2, 1) := by decide +kernel
theorem dX7_pair_34 : decode cX7_pair 34 = .ok (.iconst 2, 1) := by decide +kernel
theorem dX7_pair_35 : decode cX7_pair 35 = .ok (.if_icmp .ne 9, 3) := by decide +kernel
theorem dX7_pair_38 : decode cX7_pair 38 = .ok (.iload_n 3, 1) := by decide +kernel
theorem dX7_pair_39 : decode cX7_pair 39 = .ok (.iconst 4, 1) := by decide +kernel
theorem dX7_pair_40 : decode cX7_pair 40 = .ok (.iadd, 1) := by decide +kernel
theorem dX7_pair_41 : decode cX7_pair 41 = .ok (.goto 5, 3) := by decide +kernel
theorem dX7_pair_44 : decode cX7_pair 44 = .ok (.bipush 9, 2) := by decide +kernel
theorem dX7_pair_46 : decode cX7_pair 46 = .ok (.ireturn, 1) := by decide +kernel
set_option maxRecDepth 20000 in
theorem ggX7_must_X7_areFriends : GoodIn wsX7_must wsX7_areFriends := goodIn_r _ [5, 6, 7, 4, 8, 9, 10, 11] (by decide +kernel) (by decide +kernel)
set_option maxRecDepth 20000 in
theorem gX7_must_X7_areFriends : GoodIn wsX7_must (va_wsS RX7 58 yX7_areFriends wsX7_areFriends) := goodIn_app (goodIn_of _ (by decide +kernel)) ggX7_must_X7_areFriends
set_option maxRecDepth 20000 in
theorem ggX7_must_X7_pair : GoodIn wsX7_must wsX7_pair := goodIn_r _ [14, 15, 16, 17, 18, 19, 20, 21] (by decide +kernel) (by decide +kernel)
set_option maxRecDepth 20000 in
theorem gX7_must_X7_pair : GoodIn wsX7_must (va_wsS RX7 62 yX7_pair wsX7_pair) := goodIn_app (goodIn_of _ (by decide +kernel)) ggX7_must_X7_pair
set_option maxRecDepth 20000 in
theorem ggX7_must_X7_one : GoodIn wsX7_must wsX7_one := goodIn_r _ [24] (by decide +kernel) (by decide +kernel)
set_option maxRecDepth 20000 in
theorem gX7_must_X7_one : GoodIn wsX7_must (va_wsS RX7 45 yX7_one wsX7_one) := goodIn_app (goodIn_of _ (by decide +kernel)) ggX7_must_X7_one
theorem dX7_must_0 : decode cX7_must 0 = .ok (.iload_n 1, 1) := by decide +kernel
theorem dX7_must_1 : decode cX7_must 1 = .ok (.iload_n 2, 1) := by decide +kernel
theorem dX7_must_2 : decode cX7_must 2 = .ok (.invokestatic 58, 3) := by decide +kernel
theorem dX7_must_5 : decode cX7_must 5 = .ok (.ifCond .eq 23, 3) := by decide +kernel
theorem dX7_must_8 : decode cX7_must 8 = .ok (.aload_n 0, 1) := by decide +kernel
theorem dX7_must_9 : decode cX7_must 9 = .ok (.getfield 7, 3) := by decide +kernel
theorem dX7_must_12 : decode cX7_must 12 = .ok (.bipush 15, 2) := by decide +kernel
theorem dX7_must_14 : decode cX7_must 14 = .ok (.iload_n 1, 1) := by decide +kernel
theorem dX7_must_15 : decode cX7_must 15 = .ok (.iload_n 2, 1) := by decide +kernel
theorem dX7_must_16 : decode cX7_must 16 = .ok (.invokestatic 62, 3) := by decide +kernel
theorem dX7_must_19 : decode cX7_must 19 = .ok (.iadd, 1) := by decide +kernel
theorem dX7_must_20 : decode cX7_must 20 = .ok (.iaload, 1) := by decide +kernel
theorem dX7_must_21 : decode cX7_must 21 = .ok (.iload_n 3, 1) := by decide +kernel
theorem dX7_must_22 : decode cX7_must 22 = .ok (.invokestatic 45, 3) := by decide +kernel
theorem dX7_must_25 : decode cX7_must 25 = .ok (.if_icmp .ne 5, 3) := by decide +kernel
theorem dX7_must_28 : decode cX7_must 28 = .ok (.iconst 0, 1) := by decide +kernel
theorem dX7_must_29 : decode cX7_must 29 = .ok (.ireturn, 1) := by decide +kernel
theorem dX7_must_30 : decode cX7_must 30 = .ok (.aload_n 0, 1) := by decide +kernel
theorem dX7_must_31 : decode cX7_must 31 = .ok (.getfield 7, 3) := by decide +kernel
theorem dX7_must_34 : decode cX7_must 34 = .ok (.bipush 15, 2) := by decide +kernel
theorem dX7_must_36 : decode cX7_must 36 = .ok (.iload_n 1, 1) := by decide +kernel
theorem dX7_must_37 : decode cX7_must 37 = .ok (.iload_n 2, 1) := by decide +kernel
theorem dX7_must_38 : decode cX7_must 38 = .ok (.invokestatic 62, 3) := by decide +kernel
theorem dX7_must_41 : decode cX7_must 41 = .ok (.iadd, 1) := by decide +kernel
theorem dX7_must_42 : decode cX7_must 42 = .ok (.iload_n 3, 1) := by decide +kernel
theorem dX7_must_43 : decode cX7_must 43 = .ok (.invokestatic 45, 3) := by decide +kernel
theorem dX7_must_46 : decode cX7_must 46 = .ok (.iastore, 1) := by decide +kernel
theorem dX7_must_47 : decode cX7_must 47 = .ok (.iconst 1, 1) := by decide +kernel
theorem dX7_must_48 : decode cX7_must 48 = .ok (.ireturn, 1) := by decide +kernel
theorem dX7_waysOf_0 : decode cX7_waysOf 0 = .ok (.aload_n 0, 1) := by decide +kernel
theorem dX7_waysOf_1 : decode cX7_waysOf 1 = .ok (.getfield 7, 3) := by decide +kernel
theorem dX7_waysOf_4 : decode cX7_waysOf 4 = .ok (.iload_n 1, 1) := by decide +kernel
theorem dX7_waysOf_5 : decode cX7_waysOf 5 = .ok (.iaload, 1) := by decide +kernel
theorem dX7_waysOf_6 : decode cX7_waysOf 6 = .ok (.iload_n 2, 1) := by decide +kernel
theorem dX7_waysOf_7 : decode cX7_waysOf 7 = .ok (.iconst 3, 1) := by decide +kernel
theorem dX7_waysOf_8 : decode cX7_waysOf 8 = .ok (.ishr, 1) := by decide +kernel
theorem dX7_waysOf_9 : decode cX7_waysOf 9 = .ok (.iconst (-1), 1) := by decide +kernel
theorem dX7_waysOf_10 : decode cX7_waysOf 10 = .ok (.ixor, 1) := by decide +kernel
theorem dX7_waysOf_11 : decode cX7_waysOf 11 = .ok (.iand, 1) := by decide +kernel
theorem dX7_waysOf_12 : decode cX7_waysOf 12 = .ok (.ireturn, 1) := by decide +kernel
theorem dX7_best_0 : decode cX7_best 0 = .ok (.iconst (-1), 1) := by decide +kernel
theorem dX7_best_1 : decode cX7_best 1 = .ok (.istore_n 1, 1) := by decide +kernel
theorem dX7_best_2 : decode cX7_best 2 = .ok (.iconst 0, 1) := by decide +kernel
theorem dX7_best_3 : decode cX7_best 3 = .ok (.istore_n 2, 1) := by decide +kernel
theorem dX7_best_4 : decode cX7_best 4 = .ok (.iload_n 2, 1) := by decide +kernel
theorem dX7_best_5 : decode cX7_best 5 = .ok (.iconst 4, 1) := by decide +kernel
theorem dX7_best_6 : decode cX7_best 6 = .ok (.if_icmp .ge 20, 3) := by decide +kernel
theorem dX7_best_9 : decode cX7_best 9 = .ok (.iload_n 0, 1) := by decide +kernel
theorem dX7_best_10 : decode cX7_best 10 = .ok (.iload_n 2, 1) := by decide +kernel
theorem dX7_best_11 : decode cX7_best 11 = .ok (.ishr, 1) := by decide +kernel
theorem dX7_best_12 : decode cX7_best 12 = .ok (.iconst 1, 1) := by decide +kernel
theorem dX7_best_13 : decode cX7_best 13 = .ok (.iand, 1) := by decide +kernel
theorem dX7_best_14 : decode cX7_best 14 = .ok (.iconst 1, 1) := by decide +kernel
theorem dX7_best_15 : decode cX7_best 15 = .ok (.if_icmp .ne 5, 3) := by decide +kernel
theorem dX7_best_18 : decode cX7_best 18 = .ok (.iload_n 2, 1) := by decide +kernel
theorem dX7_best_19 : decode cX7_best 19 = .ok (.istore_n 1, 1) := by decide +kernel
theorem dX7_best_20 : decode cX7_best 20 = .ok (.iinc 2 1, 3) := by decide +kernel
theorem dX7_best_23 : decode cX7_best 23 = .ok (.goto (-19), 3) := by decide +kernel
theorem dX7_best_26 : decode cX7_best 26 = .ok (.iload_n 1, 1) := by decide +kernel
theorem dX7_best_27 : decode cX7_best 27 = .ok (.ireturn, 1) := by decide +kernel
set_option maxRecDepth 20000 in
theorem ggX7_offer_X7_best : GoodIn wsX7_offer wsX7_best := goodIn_r _ [8] (by decide +kernel) (by decide +kernel)
set_option maxRecDepth 20000 in
theorem gX7_offer_X7_best : GoodIn wsX7_offer (va_wsS RX7 65 yX7_best wsX7_best) := goodIn_app (goodIn_of _ (by decide +kernel)) ggX7_offer_X7_best
theorem dX7_offer_0 : decode cX7_offer 0 = .ok (.iload_n 0, 1) := by decide +kernel
theorem dX7_offer_1 : decode cX7_offer 1 = .ok (.istore_n 2, 1) := by decide +kernel
theorem dX7_offer_2 : decode cX7_offer 2 = .ok (.iconst 0, 1) := by decide +kernel
theorem dX7_offer_3 : decode cX7_offer 3 = .ok (.istore_n 3, 1) := by decide +kernel
theorem dX7_offer_4 : decode cX7_offer 4 = .ok (.iload_n 3, 1) := by decide +kernel
theorem dX7_offer_5 : decode cX7_offer 5 = .ok (.iload_n 1, 1) := by decide +kernel
theorem dX7_offer_6 : decode cX7_offer 6 = .ok (.if_icmp .ge 33, 3) := by decide +kernel
theorem dX7_offer_9 : decode cX7_offer 9 = .ok (.iload_n 2, 1) := by decide +kernel
theorem dX7_offer_10 : decode cX7_offer 10 = .ok (.iconst 1, 1) := by decide +kernel
theorem dX7_offer_11 : decode cX7_offer 11 = .ok (.iconst 0, 1) := by decide +kernel
theorem dX7_offer_12 : decode cX7_offer 12 = .ok (.iload_n 2, 1) := by decide +kernel
theorem dX7_offer_13 : decode cX7_offer 13 = .ok (.invokestatic 65, 3) := by decide +kernel
theorem dX7_offer_16 : decode cX7_offer 16 = .ok (.invokestatic 55, 3) := by decide +kernel
theorem dX7_offer_19 : decode cX7_offer 19 = .ok (.ishl, 1) := by decide +kernel
theorem dX7_offer_20 : decode cX7_offer 20 = .ok (.iconst (-1), 1) := by decide +kernel
theorem dX7_offer_21 : decode cX7_offer 21 = .ok (.ixor, 1) := by decide +kernel
theorem dX7_offer_22 : decode cX7_offer 22 = .ok (.iand, 1) := by decide +kernel
theorem dX7_offer_23 : decode cX7_offer 23 = .ok (.istore 4, 2) := by decide +kernel
theorem dX7_offer_25 : decode cX7_offer 25 = .ok (.iload 4, 2) := by decide +kernel
theorem dX7_offer_27 : decode cX7_offer 27 = .ok (.ifCond .eq 6, 3) := by decide +kernel
theorem dX7_offer_30 : decode cX7_offer 30 = .ok (.iload 4, 2) := by decide +kernel
theorem dX7_offer_32 : decode cX7_offer 32 = .ok (.istore_n 2, 1) := by decide +kernel
theorem dX7_offer_33 : decode cX7_offer 33 = .ok (.iinc 3 1, 3) := by decide +kernel
theorem dX7_offer_36 : decode cX7_offer 36 = .ok (.goto (-32), 3) := by decide +kernel
theorem dX7_offer_39 : decode cX7_offer 39 = .ok (.iload_n 2, 1) := by decide +kernel
theorem dX7_offer_40 : decode cX7_offer 40 = .ok (.ireturn, 1) := by decide +kernel
set_option maxRecDepth 20000 in
theorem ggX7_least_X7_waysOf : GoodIn wsX7_least wsX7_waysOf := goodIn_r _ [7, 2, 31, 32, 33, 34, 35, 36, 37, 38, 39, 40, 41, 42, 43, 44, 45, 46, 47, 48] (by decide +kernel) (by decide +kernel)
set_option maxRecDepth 20000 in
theorem gX7_least_X7_waysOf : GoodIn wsX7_least (wsV RX7 72 RX7 yX7_waysOf wsX7_waysOf) := goodIn_app (goodIn_of _ (by decide +kernel)) ggX7_least_X7_waysOf
set_option maxRecDepth 20000 in
theorem ggX7_least_X7_offer : GoodIn wsX7_least wsX7_offer := goodIn_r _ [10, 11, 12, 13, 14, 15, 16, 6, 17] (by decide +kernel) (by decide +kernel)
set_option maxRecDepth 20000 in
theorem gX7_least_X7_offer : GoodIn wsX7_least (va_wsS RX7 75 yX7_offer wsX7_offer) := goodIn_app (goodIn_of _ (by decide +kernel)) ggX7_least_X7_offer
set_option maxRecDepth 20000 in
theorem ggX7_least_X7_tries : GoodIn wsX7_least wsX7_tries := goodIn_r _ [21, 22, 2, 1, 23, 24, 25, 26, 27, 15, 16, 6, 17, 28, 29, 30, 31, 32, 33, 34, 35, 36, 37, 38, 39, 40, 41, 42, 43, 44, 45, 46, 47, 48] (by decide +kernel) (by decide +kernel)
set_option maxRecDepth 20000 in
theorem gX7_least_X7_tries : GoodIn wsX7_least (wsV RX7 78 RX7 yX7_tries wsX7_tries) := goodIn_app (goodIn_of _ (by decide +kernel)) ggX7_least_X7_tries
theorem dX7_least_0 : decode cX7_least 0 = .ok (.aload_n 0, 1) := by decide +kernel
theorem dX7_least_1 : decode cX7_least 1 = .ok (.iconst (-1), 1) := by decide +kernel
theorem dX7_least_2 : decode cX7_least 2 = .ok (.putfield 69, 3) := by decide +kernel
theorem dX7_least_5 : decode cX7_least 5 = .ok (.aload_n 0, 1) := by decide +kernel
theorem dX7_least_6 : decode cX7_least 6 = .ok (.iload_n 1, 1) := by decide +kernel
theorem dX7_least_7 : decode cX7_least 7 = .ok (.iload 4, 2) := by decide +kernel
theorem dX7_least_9 : decode cX7_least 9 = .ok (.invokevirtual 72, 3) := by decide +kernel
theorem dX7_least_12 : decode cX7_least 12 = .ok (.istore 5, 2) := by decide +kernel
theorem dX7_least_14 : decode cX7_least 14 = .ok (.aload_n 0, 1) := by decide +kernel
theorem dX7_least_15 : decode cX7_least 15 = .ok (.iload_n 2, 1) := by decide +kernel
theorem dX7_least_16 : decode cX7_least 16 = .ok (.iload 4, 2) := by decide +kernel
theorem dX7_least_18 : decode cX7_least 18 = .ok (.invokevirtual 72, 3) := by decide +kernel
theorem dX7_least_21 : decode cX7_least 21 = .ok (.istore 6, 2) := by decide +kernel
theorem dX7_least_23 : decode cX7_least 23 = .ok (.iconst 0, 1) := by decide +kernel
theorem dX7_least_24 : decode cX7_least 24 = .ok (.istore 7, 2) := by decide +kernel
theorem dX7_least_26 : decode cX7_least 26 = .ok (.iload 7, 2) := by decide +kernel
theorem dX7_least_28 : decode cX7_least 28 = .ok (.aload_n 0, 1) := by decide +kernel
theorem dX7_least_29 : decode cX7_least 29 = .ok (.getfield 7, 3) := by decide +kernel
theorem dX7_least_32 : decode cX7_least 32 = .ok (.bipush 6, 2) := by decide +kernel
theorem dX7_least_34 : decode cX7_least 34 = .ok (.iaload, 1) := by decide +kernel
theorem dX7_least_35 : decode cX7_least 35 = .ok (.if_icmp .gt 112, 3) := by decide +kernel
theorem dX7_least_38 : decode cX7_least 38 = .ok (.iload 5, 2) := by decide +kernel
theorem dX7_least_40 : decode cX7_least 40 = .ok (.ifCond .eq 107, 3) := by decide +kernel
theorem dX7_least_43 : decode cX7_least 43 = .ok (.iload 5, 2) := by decide +kernel
theorem dX7_least_45 : decode cX7_least 45 = .ok (.iload 7, 2) := by decide +kernel
theorem dX7_least_47 : decode cX7_least 47 = .ok (.invokestatic 75, 3) := by decide +kernel
theorem dX7_least_50 : decode cX7_least 50 = .ok (.iload 4, 2) := by decide +kernel
theorem dX7_least_52 : decode cX7_least 52 = .ok (.iconst 2, 1) := by decide +kernel
theorem dX7_least_53 : decode cX7_least 53 = .ok (.iand, 1) := by decide +kernel
theorem dX7_least_54 : decode cX7_least 54 = .ok (.ifCond .eq 13, 3) := by decide +kernel
theorem dX7_least_57 : decode cX7_least 57 = .ok (.iload 7, 2) := by decide +kernel
theorem dX7_least_59 : decode cX7_least 59 = .ok (.ifCond .le 8, 3) := by decide +kernel
theorem dX7_least_62 : decode cX7_least 62 = .ok (.bipush 16, 2) := by decide +kernel
theorem dX7_least_64 : decode cX7_least 64 = .ok (.goto 4, 3) := by decide +kernel
theorem dX7_least_67 : decode cX7_least 67 = .ok (.iconst 0, 1) := by decide +kernel
theorem dX7_least_68 : decode cX7_least 68 = .ok (.iadd, 1) := by decide +kernel
theorem dX7_least_69 : decode cX7_least 69 = .ok (.istore 8, 2) := by decide +kernel
theorem dX7_least_71 : decode cX7_least 71 = .ok (.aload_n 0, 1) := by decide +kernel
theorem dX7_least_72 : decode cX7_least 72 = .ok (.iload_n 1, 1) := by decide +kernel
theorem dX7_least_73 : decode cX7_least 73 = .ok (.iload_n 2, 1) := by decide +kernel
theorem dX7_least_74 : decode cX7_least 74 = .ok (.iload_n 3, 1) := by decide +kernel
theorem dX7_least_75 : decode cX7_least 75 = .ok (.iload 4, 2) := by decide +kernel
theorem dX7_least_77 : decode cX7_least 77 = .ok (.iload 6, 2) := by decide +kernel
theorem dX7_least_79 : decode cX7_least 79 = .ok (.iload 7, 2) := by decide +kernel
theorem dX7_least_81 : decode cX7_least 81 = .ok (.iload 8, 2) := by decide +kernel
theorem dX7_least_83 : decode cX7_least 83 = .ok (.iconst (-1), 1) := by decide +kernel
theorem dX7_least_84 : decode cX7_least 84 = .ok (.invokevirtual 78, 3) := by decide +kernel
theorem dX7_least_87 : decode cX7_least 87 = .ok (.iconst 1, 1) := by decide +kernel
theorem dX7_least_88 : decode cX7_least 88 = .ok (.istore 9, 2) := by decide +kernel
theorem dX7_least_90 : decode cX7_least 90 = .ok (.iload 9, 2) := by decide +kernel
theorem dX7_least_92 : decode cX7_least 92 = .ok (.bipush 15, 2) := by decide +kernel
theorem dX7_least_94 : decode cX7_least 94 = .ok (.if_icmp .gt 47, 3) := by decide +kernel
theorem dX7_least_97 : decode cX7_least 97 = .ok (.iconst 0, 1) := by decide +kernel
theorem dX7_least_98 : decode cX7_least 98 = .ok (.istore 10, 2) := by decide +kernel
theorem dX7_least_100 : decode cX7_least 100 = .ok (.iload 10, 2) := by decide +kernel
theorem dX7_least_102 : decode cX7_least 102 = .ok (.iconst 2, 1) := by decide +kernel
theorem dX7_least_103 : decode cX7_least 103 = .ok (.if_icmp .ge 32, 3) := by decide +kernel
theorem dX7_least_106 : decode cX7_least 106 = .ok (.aload_n 0, 1) := by decide +kernel
theorem dX7_least_107 : decode cX7_least 107 = .ok (.iload_n 1, 1) := by decide +kernel
theorem dX7_least_108 : decode cX7_least 108 = .ok (.iload_n 2, 1) := by decide +kernel
theorem dX7_least_109 : decode cX7_least 109 = .ok (.iload_n 3, 1) := by decide +kernel
theorem dX7_least_110 : decode cX7_least 110 = .ok (.iload 4, 2) := by decide +kernel
theorem dX7_least_112 : decode cX7_least 112 = .ok (.iload 6, 2) := by decide +kernel
theorem dX7_least_114 : decode cX7_least 114 = .ok (.iload 7, 2) := by decide +kernel
theorem dX7_least_116 : decode cX7_least 116 = .ok (.iload 8, 2) := by decide +kernel
theorem dX7_least_118 : decode cX7_least 118 = .ok (.iload 9, 2) := by decide +kernel
theorem dX7_least_120 : decode cX7_least 120 = .ok (.bipush 16, 2) := by decide +kernel
theorem dX7_least_122 : decode cX7_least 122 = .ok (.iload 10, 2) := by decide +kernel
theorem dX7_least_124 : decode cX7_least 124 = .ok (.imul, 1) := by decide +kernel
theorem dX7_least_125 : decode cX7_least 125 = .ok (.iadd, 1) := by decide +kernel
theorem dX7_least_126 : decode cX7_least 126 = .ok (.invokevirtual 78, 3) := by decide +kernel
theorem dX7_least_129 : decode cX7_least 129 = .ok (.iinc 10 1, 3) := by decide +kernel
theorem dX7_least_132 : decode cX7_least 132 = .ok (.goto (-32), 3) := by decide +kernel
theorem dX7_least_135 : decode cX7_least 135 = .ok (.iinc 9 1, 3) := by decide +kernel
theorem dX7_least_138 : decode cX7_least 138 = .ok (.goto (-48), 3) := by decide +kernel
theorem dX7_least_141 : decode cX7_least 141 = .ok (.iinc 7 1, 3) := by decide +kernel
theorem dX7_least_144 : decode cX7_least 144 = .ok (.goto (-118), 3) := by decide +kernel
theorem dX7_least_147 : decode cX7_least 147 = .ok (.aload_n 0, 1) := by decide +kernel
theorem dX7_least_148 : decode cX7_least 148 = .ok (.getfield 69, 3) := by decide +kernel
theorem dX7_least_151 : decode cX7_least 151 = .ok (.ireturn, 1) := by decide +kernel
set_option maxRecDepth 20000 in
theorem ggX7_tries_X7_best : GoodIn wsX7_tries wsX7_best := goodIn_r _ [12] (by decide +kernel) (by decide +kernel)
set_option maxRecDepth 20000 in
theorem gX7_tries_X7_best : GoodIn wsX7_tries (va_wsS RX7 65 yX7_best wsX7_best) := goodIn_app (goodIn_of _ (by decide +kernel)) ggX7_tries_X7_best
set_option maxRecDepth 20000 in
theorem ggX7_tries_X7_one : GoodIn wsX7_tries wsX7_one := goodIn_r _ [15] (by decide +kernel) (by decide +kernel)
set_option maxRecDepth 20000 in
theorem gX7_tries_X7_one : GoodIn wsX7_tries (va_wsS RX7 45 yX7_one wsX7_one) := goodIn_app (goodIn_of _ (by decide +kernel)) ggX7_tries_X7_one
theorem dX7_tries_0 : decode cX7_tries 0 = .ok (.iload 8, 2) := by decide +kernel
theorem dX7_tries_2 : decode cX7_tries 2 = .ok (.iconst (-1), 1) := by decide +kernel
theorem dX7_tries_3 : decode cX7_tries 3 = .ok (.if_icmp .ne 8, 3) := by decide +kernel
theorem dX7_tries_6 : decode cX7_tries 6 = .ok (.iload 7, 2) := by decide +kernel
theorem dX7_tries_8 : decode cX7_tries 8 = .ok (.goto 5, 3) := by decide +kernel
theorem dX7_tries_11 : decode cX7_tries 11 = .ok (.iload 8, 2) := by decide +kernel
theorem dX7_tries_13 : decode cX7_tries 13 = .ok (.istore 9, 2) := by decide +kernel
theorem dX7_tries_15 : decode cX7_tries 15 = .ok (.iload 9, 2) := by decide +kernel
theorem dX7_tries_17 : decode cX7_tries 17 = .ok (.bipush 16, 2) := by decide +kernel
theorem dX7_tries_19 : decode cX7_tries 19 = .ok (.if_icmp .lt 20, 3) := by decide +kernel
theorem dX7_tries_22 : decode cX7_tries 22 = .ok (.iload 5, 2) := by decide +kernel
theorem dX7_tries_24 : decode cX7_tries 24 = .ok (.invokestatic 65, 3) := by decide +kernel
theorem dX7_tries_27 : decode cX7_tries 27 = .ok (.iload 9, 2) := by decide +kernel
theorem dX7_tries_29 : decode cX7_tries 29 = .ok (.bipush 15, 2) := by decide +kernel
theorem dX7_tries_31 : decode cX7_tries 31 = .ok (.iand, 1) := by decide +kernel
theorem dX7_tries_32 : decode cX7_tries 32 = .ok (.invokestatic 65, 3) := by decide +kernel
theorem dX7_tries_35 : decode cX7_tries 35 = .ok (.if_icmp .le 4, 3) := by decide +kernel
theorem dX7_tries_38 : decode cX7_tries 38 = .ok (.return_, 1) := by decide +kernel
theorem dX7_tries_39 : decode cX7_tries 39 = .ok (.iload 9, 2) := by decide +kernel
theorem dX7_tries_41 : decode cX7_tries 41 = .ok (.iload 5, 2) := by decide +kernel
theorem dX7_tries_43 : decode cX7_tries 43 = .ok (.iand, 1) := by decide +kernel
theorem dX7_tries_44 : decode cX7_tries 44 = .ok (.invokestatic 65, 3) := by decide +kernel
theorem dX7_tries_47 : decode cX7_tries 47 = .ok (.istore 10, 2) := by decide +kernel
theorem dX7_tries_49 : decode cX7_tries 49 = .ok (.iload 10, 2) := by decide +kernel
theorem dX7_tries_51 : decode cX7_tries 51 = .ok (.iconst (-1), 1) := by decide +kernel
theorem dX7_tries_52 : decode cX7_tries 52 = .ok (.if_icmp .ne 4, 3) := by decide +kernel
theorem dX7_tries_55 : decode cX7_tries 55 = .ok (.return_, 1) := by decide +kernel
theorem dX7_tries_56 : decode cX7_tries 56 = .ok (.iconst 0, 1) := by decide +kernel
theorem dX7_tries_57 : decode cX7_tries 57 = .ok (.istore 11, 2) := by decide +kernel
theorem dX7_tries_59 : decode cX7_tries 59 = .ok (.iload 11, 2) := by decide +kernel
theorem dX7_tries_61 : decode cX7_tries 61 = .ok (.iconst 4, 1) := by decide +kernel
theorem dX7_tries_62 : decode cX7_tries 62 = .ok (.if_icmp .ge 252, 3) := by decide +kernel
theorem dX7_tries_65 : decode cX7_tries 65 = .ok (.iload_n 3, 1) := by decide +kernel
theorem dX7_tries_66 : decode cX7_tries 66 = .ok (.iconst (-1), 1) := by decide +kernel
theorem dX7_tries_67 : decode cX7_tries 67 = .ok (.if_icmp .ne 18, 3) := by decide +kernel
theorem dX7_tries_70 : decode cX7_tries 70 = .ok (.iload 11, 2) := by decide +kernel
theorem dX7_tries_72 : decode cX7_tries 72 = .ok (.iload 10, 2) := by decide +kernel
theorem dX7_tries_74 : decode cX7_tries 74 = .ok (.if_icmp .eq 7, 3) := by decide +kernel
theorem dX7_tries_77 : decode cX7_tries 77 = .ok (.iconst 1, 1) := by decide +kernel
theorem dX7_tries_78 : decode cX7_tries 78 = .ok (.goto 24, 3) := by decide +kernel
theorem dX7_tries_81 : decode cX7_tries 81 = .ok (.iconst 0, 1) := by decide +kernel
theorem dX7_tries_82 : decode cX7_tries 82 = .ok (.goto 20, 3) := by decide +kernel
theorem dX7_tries_85 : decode cX7_tries 85 = .ok (.iload 11, 2) := by decide +kernel
theorem dX7_tries_87 : decode cX7_tries 87 = .ok (.iload_n 3, 1) := by decide +kernel
theorem dX7_tries_88 : decode cX7_tries 88 = .ok (.if_icmp .ne 13, 3) := by decide +kernel
theorem dX7_tries_91 : decode cX7_tries 91 = .ok (.iload 10, 2) := by decide +kernel
theorem dX7_tries_93 : decode cX7_tries 93 = .ok (.iload_n 3, 1) := by decide +kernel
theorem dX7_tries_94 : decode cX7_tries 94 = .ok (.if_icmp .ne 7, 3) := by decide +kernel
theorem dX7_tries_97 : decode cX7_tries 97 = .ok (.iconst 1, 1) := by decide +kernel
theorem dX7_tries_98 : decode cX7_tries 98 = .ok (.goto 4, 3) := by decide +kernel
theorem dX7_tries_101 : decode cX7_tries 101 = .ok (.iconst 0, 1) := by decide +kernel
theorem dX7_tries_102 : decode cX7_tries 102 = .ok (.istore 12, 2) := by decide +kernel
theorem dX7_tries_104 : decode cX7_tries 104 = .ok (.iload 12, 2) := by decide +kernel
theorem dX7_tries_106 : decode cX7_tries 106 = .ok (.ifCond .eq 202, 3) := by decide +kernel
theorem dX7_tries_109 : decode cX7_tries 109 = .ok (.iload 7, 2) := by decide +kernel
theorem dX7_tries_111 : decode cX7_tries 111 = .ok (.iload 11, 2) := by decide +kernel
theorem dX7_tries_113 : decode cX7_tries 113 = .ok (.ishr, 1) := by decide +kernel
theorem dX7_tries_114 : decode cX7_tries 114 = .ok (.iconst 1, 1) := by decide +kernel
theorem dX7_tries_115 : decode cX7_tries 115 = .ok (.iand, 1) := by decide +kernel
theorem dX7_tries_116 : decode cX7_tries 116 = .ok (.ifCond .ne 6, 3) := by decide +kernel
theorem dX7_tries_119 : decode cX7_tries 119 = .ok (.goto 189, 3) := by decide +kernel
theorem dX7_tries_122 : decode cX7_tries 122 = .ok (.iload 4, 2) := by decide +kernel
theorem dX7_tries_124 : decode cX7_tries 124 = .ok (.iconst 4, 1) := by decide +kernel
theorem dX7_tries_125 : decode cX7_tries 125 = .ok (.iand, 1) := by decide +kernel
theorem dX7_tries_126 : decode cX7_tries 126 = .ok (.ifCond .eq 21, 3) := by decide +kernel
theorem dX7_tries_129 : decode cX7_tries 129 = .ok (.iload 11, 2) := by decide +kernel
theorem dX7_tries_131 : decode cX7_tries 131 = .ok (.aload_n 0, 1) := by decide +kernel
theorem dX7_tries_132 : decode cX7_tries 132 = .ok (.getfield 13, 3) := by decide +kernel
theorem dX7_tries_135 : decode cX7_tries 135 = .ok (.iconst 5, 1) := by decide +kernel
theorem dX7_tries_136 : decode cX7_tries 136 = .ok (.iload_n 1, 1) := by decide +kernel
theorem dX7_tries_137 : decode cX7_tries 137 = .ok (.imul, 1) := by decide +kernel
theorem dX7_tries_138 : decode cX7_tries 138 = .ok (.iload_n 2, 1) := by decide +kernel
theorem dX7_tries_139 : decode cX7_tries 139 = .ok (.iadd, 1) := by decide +kernel
theorem dX7_tries_140 : decode cX7_tries 140 = .ok (.iaload, 1) := by decide +kernel
theorem dX7_tries_141 : decode cX7_tries 141 = .ok (.if_icmp .ge 6, 3) := by decide +kernel
theorem dX7_tries_144 : decode cX7_tries 144 = .ok (.goto 164, 3) := by decide +kernel
theorem dX7_tries_147 : decode cX7_tries 147 = .ok (.iload 4, 2) := by decide +kernel
theorem dX7_tries_149 : decode cX7_tries 149 = .ok (.iconst 1, 1) := by decide +kernel
theorem dX7_tries_150 : decode cX7_tries 150 = .ok (.iand, 1) := by decide +kernel
theorem dX7_tries_151 : decode cX7_tries 151 = .ok (.ifCond .eq 21, 3) := by decide +kernel
theorem dX7_tries_154 : decode cX7_tries 154 = .ok (.iload 9, 2) := by decide +kernel
theorem dX7_tries_156 : decode cX7_tries 156 = .ok (.iload 7, 2) := by decide +kernel
theorem dX7_tries_158 : decode cX7_tries 158 = .ok (.if_icmp .ne 10, 3) := by decide +kernel
theorem dX7_tries_161 : decode cX7_tries 161 = .ok (.iload 11, 2) := by decide +kernel
theorem dX7_tries_163 : decode cX7_tries 163 = .ok (.iload 10, 2) := by decide +kernel
theorem dX7_tries_165 : decode cX7_tries 165 = .ok (.if_icmp .eq 7, 3) := by decide +kernel
theorem dX7_tries_168 : decode cX7_tries 168 = .ok (.iconst 1, 1) := by decide +kernel
theorem dX7_tries_169 : decode cX7_tries 169 = .ok (.goto 4, 3) := by decide +kernel
theorem dX7_tries_172 : decode cX7_tries 172 = .ok (.iconst 0, 1) := by decide +kernel
theorem dX7_tries_173 : decode cX7_tries 173 = .ok (.istore 13, 2) := by decide +kernel
theorem dX7_tries_175 : decode cX7_tries 175 = .ok (.iload 13, 2) := by decide +kernel
theorem dX7_tries_177 : decode cX7_tries 177 = .ok (.ifCond .eq 34, 3) := by decide +kernel
theorem dX7_tries_180 : decode cX7_tries 180 = .ok (.aload_n 0, 1) := by decide +kernel
theorem dX7_tries_181 : decode cX7_tries 181 = .ok (.getfield 7, 3) := by decide +kernel
theorem dX7_tries_184 : decode cX7_tries 184 = .ok (.iconst 5, 1) := by decide +kernel
theorem dX7_tries_185 : decode cX7_tries 185 = .ok (.iaload, 1) := by decide +kernel
theorem dX7_tries_186 : decode cX7_tries 186 = .ok (.iload 10, 2) := by decide +kernel
theorem dX7_tries_188 : decode cX7_tries 188 = .ok (.ishr, 1) := by decide +kernel
theorem dX7_tries_189 : decode cX7_tries 189 = .ok (.iconst 1, 1) := by decide +kernel
theorem dX7_tries_190 : decode cX7_tries 190 = .ok (.iand, 1) := by decide +kernel
theorem dX7_tries_191 : decode cX7_tries 191 = .ok (.ifCond .eq 117, 3) := by decide +kernel
theorem dX7_tries_194 : decode cX7_tries 194 = .ok (.aload_n 0, 1) := by decide +kernel
theorem dX7_tries_195 : decode cX7_tries 195 = .ok (.getfield 7, 3) := by decide +kernel
theorem dX7_tries_198 : decode cX7_tries 198 = .ok (.iconst 5, 1) := by decide +kernel
theorem dX7_tries_199 : decode cX7_tries 199 = .ok (.iaload, 1) := by decide +kernel
theorem dX7_tries_200 : decode cX7_tries 200 = .ok (.iload 11, 2) := by decide +kernel
theorem dX7_tries_202 : decode cX7_tries 202 = .ok (.ishr, 1) := by decide +kernel
theorem dX7_tries_203 : decode cX7_tries 203 = .ok (.iconst 1, 1) := by decide +kernel
theorem dX7_tries_204 : decode cX7_tries 204 = .ok (.iand, 1) := by decide +kernel
theorem dX7_tries_205 : decode cX7_tries 205 = .ok (.ifCond .ne 6, 3) := by decide +kernel
theorem dX7_tries_208 : decode cX7_tries 208 = .ok (.goto 100, 3) := by decide +kernel
theorem dX7_tries_211 : decode cX7_tries 211 = .ok (.iload 6, 2) := by decide +kernel
theorem dX7_tries_213 : decode cX7_tries 213 = .ok (.iload 8, 2) := by decide +kernel
theorem dX7_tries_215 : decode cX7_tries 215 = .ok (.iconst (-1), 1) := by decide +kernel
theorem dX7_tries_216 : decode cX7_tries 216 = .ok (.if_icmp .eq 7, 3) := by decide +kernel
theorem dX7_tries_219 : decode cX7_tries 219 = .ok (.iconst 1, 1) := by decide +kernel
theorem dX7_tries_220 : decode cX7_tries 220 = .ok (.goto 4, 3) := by decide +kernel
theorem dX7_tries_223 : decode cX7_tries 223 = .ok (.iconst 0, 1) := by decide +kernel
theorem dX7_tries_224 : decode cX7_tries 224 = .ok (.invokestatic 45, 3) := by decide +kernel
theorem dX7_tries_227 : decode cX7_tries 227 = .ok (.iadd, 1) := by decide +kernel
theorem dX7_tries_228 : decode cX7_tries 228 = .ok (.iload 11, 2) := by decide +kernel
theorem dX7_tries_230 : decode cX7_tries 230 = .ok (.iload 10, 2) := by decide +kernel
theorem dX7_tries_232 : decode cX7_tries 232 = .ok (.if_icmp .eq 7, 3) := by decide +kernel
theorem dX7_tries_235 : decode cX7_tries 235 = .ok (.iconst 1, 1) := by decide +kernel
theorem dX7_tries_236 : decode cX7_tries 236 = .ok (.goto 4, 3) := by decide +kernel
theorem dX7_tries_239 : decode cX7_tries 239 = .ok (.iconst 0, 1) := by decide +kernel
theorem dX7_tries_240 : decode cX7_tries 240 = .ok (.invokestatic 45, 3) := by decide +kernel
theorem dX7_tries_243 : decode cX7_tries 243 = .ok (.iadd, 1) := by decide +kernel
theorem dX7_tries_244 : decode cX7_tries 244 = .ok (.iload 13, 2) := by decide +kernel
theorem dX7_tries_246 : decode cX7_tries 246 = .ok (.invokestatic 45, 3) := by decide +kernel
theorem dX7_tries_249 : decode cX7_tries 249 = .ok (.iadd, 1) := by decide +kernel
theorem dX7_tries_250 : decode cX7_tries 250 = .ok (.istore 14, 2) := by decide +kernel
theorem dX7_tries_252 : decode cX7_tries 252 = .ok (.aload_n 0, 1) := by decide +kernel
theorem dX7_tries_253 : decode cX7_tries 253 = .ok (.getfield 69, 3) := by decide +kernel
theorem dX7_tries_256 : decode cX7_tries 256 = .ok (.iconst (-1), 1) := by decide +kernel
theorem dX7_tries_257 : decode cX7_tries 257 = .ok (.if_icmp .eq 15, 3) := by decide +kernel
theorem dX7_tries_260 : decode cX7_tries 260 = .ok (.iload 14, 2) := by decide +kernel
theorem dX7_tries_262 : decode cX7_tries 262 = .ok (.aload_n 0, 1) := by decide +kernel
theorem dX7_tries_263 : decode cX7_tries 263 = .ok (.getfield 69, 3) := by decide +kernel
theorem dX7_tries_266 : decode cX7_tries 266 = .ok (.if_icmp .lt 6, 3) := by decide +kernel
theorem dX7_tries_269 : decode cX7_tries 269 = .ok (.goto 39, 3) := by decide +kernel
theorem dX7_tries_272 : decode cX7_tries 272 = .ok (.aload_n 0, 1) := by decide +kernel
theorem dX7_tries_273 : decode cX7_tries 273 = .ok (.iload 14, 2) := by decide +kernel
theorem dX7_tries_275 : decode cX7_tries 275 = .ok (.putfield 69, 3) := by decide +kernel
theorem dX7_tries_278 : decode cX7_tries 278 = .ok (.aload_n 0, 1) := by decide +kernel
theorem dX7_tries_279 : decode cX7_tries 279 = .ok (.iload 6, 2) := by decide +kernel
theorem dX7_tries_281 : decode cX7_tries 281 = .ok (.putfield 82, 3) := by decide +kernel
theorem dX7_tries_284 : decode cX7_tries 284 = .ok (.aload_n 0, 1) := by decide +kernel
theorem dX7_tries_285 : decode cX7_tries 285 = .ok (.iload 8, 2) := by decide +kernel
theorem dX7_tries_287 : decode cX7_tries 287 = .ok (.putfield 85, 3) := by decide +kernel
theorem dX7_tries_290 : decode cX7_tries 290 = .ok (.aload_n 0, 1) := by decide +kernel
theorem dX7_tries_291 : decode cX7_tries 291 = .ok (.iload 10, 2) := by decide +kernel
theorem dX7_tries_293 : decode cX7_tries 293 = .ok (.putfield 88, 3) := by decide +kernel
theorem dX7_tries_296 : decode cX7_tries 296 = .ok (.aload_n 0, 1) := by decide +kernel
theorem dX7_tries_297 : decode cX7_tries 297 = .ok (.iload 11, 2) := by decide +kernel
theorem dX7_tries_299 : decode cX7_tries 299 = .ok (.putfield 91, 3) := by decide +kernel
theorem dX7_tries_302 : decode cX7_tries 302 = .ok (.aload_n 0, 1) := by decide +kernel
theorem dX7_tries_303 : decode cX7_tries 303 = .ok (.iload 13, 2) := by decide +kernel
theorem dX7_tries_305 : decode cX7_tries 305 = .ok (.putfield 94, 3) := by decide +kernel
theorem dX7_tries_308 : decode cX7_tries 308 = .ok (.iinc 11 1, 3) := by decide +kernel
theorem dX7_tries_311 : decode cX7_tries 311 = .ok (.goto (-252), 3) := by decide +kernel
theorem dX7_tries_314 : decode cX7_tries 314 = .ok (.return_, 1) := by decide +kernel
set_option maxRecDepth 20000 in
theorem ggX7_bestOf_X7_waysOf : GoodIn wsX7_bestOf wsX7_waysOf := goodIn_r _ [5, 6, 10, 11, 12, 13, 14, 15, 16, 17, 18, 19, 20, 21, 22, 23, 24, 25, 26, 27] (by decide +kernel) (by decide +kernel)
set_option maxRecDepth 20000 in
theorem gX7_bestOf_X7_waysOf : GoodIn wsX7_bestOf (wsV RX7 72 RX7 yX7_waysOf wsX7_waysOf) := goodIn_app (goodIn_of _ (by decide +kernel)) ggX7_bestOf_X7_waysOf
set_option maxRecDepth 20000 in
theorem ggX7_bestOf_X7_best : GoodIn wsX7_bestOf wsX7_best := goodIn_r _ [9] (by decide +kernel) (by decide +kernel)
set_option maxRecDepth 20000 in
theorem gX7_bestOf_X7_best : GoodIn wsX7_bestOf (va_wsS RX7 65 yX7_best wsX7_best) := goodIn_app (goodIn_of _ (by decide +kernel)) ggX7_bestOf_X7_best
theorem dX7_bestOf_0 : decode cX7_bestOf 0 = .ok (.aload_n 0, 1) := by decide +kernel
theorem dX7_bestOf_1 : decode cX7_bestOf 1 = .ok (.iload_n 1, 1) := by decide +kernel
theorem dX7_bestOf_2 : decode cX7_bestOf 2 = .ok (.iload_n 3, 1) := by decide +kernel
theorem dX7_bestOf_3 : decode cX7_bestOf 3 = .ok (.invokevirtual 72, 3) := by decide +kernel
theorem dX7_bestOf_6 : decode cX7_bestOf 6 = .ok (.aload_n 0, 1) := by decide +kernel
theorem dX7_bestOf_7 : decode cX7_bestOf 7 = .ok (.iload_n 2, 1) := by decide +kernel
theorem dX7_bestOf_8 : decode cX7_bestOf 8 = .ok (.iload_n 3, 1) := by decide +kernel
theorem dX7_bestOf_9 : decode cX7_bestOf 9 = .ok (.invokevirtual 72, 3) := by decide +kernel
theorem dX7_bestOf_12 : decode cX7_bestOf 12 = .ok (.iand, 1) := by decide +kernel
theorem dX7_bestOf_13 : decode cX7_bestOf 13 = .ok (.invokestatic 65, 3) := by decide +kernel
theorem dX7_bestOf_16 : decode cX7_bestOf 16 = .ok (.ireturn, 1) := by decide +kernel
set_option maxRecDepth 20000 in
theorem ggX7_best__X7_areFriends : GoodIn wsX7_best_ wsX7_areFriends := goodIn_r _ [5, 6, 7, 4, 8, 9, 10, 11] (by decide +kernel) (by decide +kernel)
set_option maxRecDepth 20000 in
theorem gX7_best__X7_areFriends : GoodIn wsX7_best_ (va_wsS RX7 58 yX7_areFriends wsX7_areFriends) := goodIn_app (goodIn_of _ (by decide +kernel)) ggX7_best__X7_areFriends
set_option maxRecDepth 20000 in
theorem ggX7_best__X7_bestOf : GoodIn wsX7_best_ wsX7_bestOf := goodIn_r _ [15, 16, 17, 18, 4, 19, 1, 20, 21, 22, 23, 24, 25, 26, 27, 28, 29, 30, 31, 32, 33, 34, 35, 36, 37, 38, 39, 40] (by decide +kernel) (by decide +kernel)
set_option maxRecDepth 20000 in
theorem gX7_best__X7_bestOf : GoodIn wsX7_best_ (wsV RX7 98 RX7 yX7_bestOf wsX7_bestOf) := goodIn_app (goodIn_of _ (by decide +kernel)) ggX7_best__X7_bestOf
theorem dX7_best__0 : decode cX7_best_ 0 = .ok (.iload_n 1, 1) := by decide +kernel
theorem dX7_best__1 : decode cX7_best_ 1 = .ok (.iload_n 2, 1) := by decide +kernel
theorem dX7_best__2 : decode cX7_best_ 2 = .ok (.invokestatic 58, 3) := by decide +kernel
theorem dX7_best__5 : decode cX7_best_ 5 = .ok (.ifCond .eq 19, 3) := by decide +kernel
theorem dX7_best__8 : decode cX7_best_ 8 = .ok (.aload_n 0, 1) := by decide +kernel
theorem dX7_best__9 : decode cX7_best_ 9 = .ok (.iload_n 1, 1) := by decide +kernel
theorem dX7_best__10 : decode cX7_best_ 10 = .ok (.iload_n 2, 1) := by decide +kernel
theorem dX7_best__11 : decode cX7_best_ 11 = .ok (.aload_n 0, 1) := by decide +kernel
theorem dX7_best__12 : decode cX7_best_ 12 = .ok (.getfield 7, 3) := by decide +kernel
theorem dX7_best__15 : decode cX7_best_ 15 = .ok (.bipush 7, 2) := by decide +kernel
theorem dX7_best__17 : decode cX7_best_ 17 = .ok (.iaload, 1) := by decide +kernel
theorem dX7_best__18 : decode cX7_best_ 18 = .ok (.invokevirtual 98, 3) := by decide +kernel
theorem dX7_best__21 : decode cX7_best_ 21 = .ok (.goto 4, 3) := by decide +kernel
theorem dX7_best__24 : decode cX7_best_ 24 = .ok (.iconst (-1), 1) := by decide +kernel
theorem dX7_best__25 : decode cX7_best_ 25 = .ok (.ireturn, 1) := by decide +kernel
set_option maxRecDepth 20000 in
theorem ggX7_meet_X7_best_ : GoodIn wsX7_meet wsX7_best_ := goodIn_r _ [11, 1, 12, 13, 10, 14, 15, 16, 17, 18, 19, 20, 21, 22, 23, 24, 25, 26, 27, 28, 29, 30, 31, 32, 33, 34, 35, 36, 37, 38, 39, 40, 41, 42, 43, 44, 45, 46, 47, 48, 49] (by decide +kernel) (by decide +kernel)
set_option maxRecDepth 20000 in
theorem gX7_meet_X7_best_ : GoodIn wsX7_meet (wsV RX7 102 RX7 yX7_best_ wsX7_best_) := goodIn_app (goodIn_of _ (by decide +kernel)) ggX7_meet_X7_best_
theorem dX7_meet_0 : decode cX7_meet 0 = .ok (.aload_n 0, 1) := by decide +kernel
theorem dX7_meet_1 : decode cX7_meet 1 = .ok (.iload_n 1, 1) := by decide +kernel
theorem dX7_meet_2 : decode cX7_meet 2 = .ok (.iload_n 2, 1) := by decide +kernel
theorem dX7_meet_3 : decode cX7_meet 3 = .ok (.invokevirtual 102, 3) := by decide +kernel
theorem dX7_meet_6 : decode cX7_meet 6 = .ok (.istore_n 3, 1) := by decide +kernel
theorem dX7_meet_7 : decode cX7_meet 7 = .ok (.iload_n 3, 1) := by decide +kernel
theorem dX7_meet_8 : decode cX7_meet 8 = .ok (.iconst (-1), 1) := by decide +kernel
theorem dX7_meet_9 : decode cX7_meet 9 = .ok (.if_icmp .eq 29, 3) := by decide +kernel
theorem dX7_meet_12 : decode cX7_meet 12 = .ok (.aload_n 0, 1) := by decide +kernel
theorem dX7_meet_13 : decode cX7_meet 13 = .ok (.getfield 7, 3) := by decide +kernel
theorem dX7_meet_16 : decode cX7_meet 16 = .ok (.bipush 7, 2) := by decide +kernel
theorem dX7_meet_18 : decode cX7_meet 18 = .ok (.iaload, 1) := by decide +kernel
theorem dX7_meet_19 : decode cX7_meet 19 = .ok (.iconst 4, 1) := by decide +kernel
theorem dX7_meet_20 : decode cX7_meet 20 = .ok (.iand, 1) := by decide +kernel
theorem dX7_meet_21 : decode cX7_meet 21 = .ok (.ifCond .eq 19, 3) := by decide +kernel
theorem dX7_meet_24 : decode cX7_meet 24 = .ok (.iload_n 3, 1) := by decide +kernel
theorem dX7_meet_25 : decode cX7_meet 25 = .ok (.aload_n 0, 1) := by decide +kernel
theorem dX7_meet_26 : decode cX7_meet 26 = .ok (.getfield 13, 3) := by decide +kernel
theorem dX7_meet_29 : decode cX7_meet 29 = .ok (.iconst 5, 1) := by decide +kernel
theorem dX7_meet_30 : decode cX7_meet 30 = .ok (.iload_n 1, 1) := by decide +kernel
theorem dX7_meet_31 : decode cX7_meet 31 = .ok (.imul, 1) := by decide +kernel
theorem dX7_meet_32 : decode cX7_meet 32 = .ok (.iload_n 2, 1) := by decide +kernel
theorem dX7_meet_33 : decode cX7_meet 33 = .ok (.iadd, 1) := by decide +kernel
theorem dX7_meet_34 : decode cX7_meet 34 = .ok (.iaload, 1) := by decide +kernel
theorem dX7_meet_35 : decode cX7_meet 35 = .ok (.if_icmp .ge 5, 3) := by decide +kernel
theorem dX7_meet_38 : decode cX7_meet 38 = .ok (.iconst (-1), 1) := by decide +kernel
theorem dX7_meet_39 : decode cX7_meet 39 = .ok (.ireturn, 1) := by decide +kernel
theorem dX7_meet_40 : decode cX7_meet 40 = .ok (.aload_n 0, 1) := by decide +kernel
theorem dX7_meet_41 : decode cX7_meet 41 = .ok (.getfield 13, 3) := by decide +kernel
theorem dX7_meet_44 : decode cX7_meet 44 = .ok (.iconst 5, 1) := by decide +kernel
theorem dX7_meet_45 : decode cX7_meet 45 = .ok (.iload_n 1, 1) := by decide +kernel
theorem dX7_meet_46 : decode cX7_meet 46 = .ok (.imul, 1) := by decide +kernel
theorem dX7_meet_47 : decode cX7_meet 47 = .ok (.iload_n 2, 1) := by decide +kernel
theorem dX7_meet_48 : decode cX7_meet 48 = .ok (.iadd, 1) := by decide +kernel
theorem dX7_meet_49 : decode cX7_meet 49 = .ok (.aload_n 0, 1) := by decide +kernel
theorem dX7_meet_50 : decode cX7_meet 50 = .ok (.getfield 13, 3) := by decide +kernel
theorem dX7_meet_53 : decode cX7_meet 53 = .ok (.iconst 5, 1) := by decide +kernel
theorem dX7_meet_54 : decode cX7_meet 54 = .ok (.iload_n 1, 1) := by decide +kernel
theorem dX7_meet_55 : decode cX7_meet 55 = .ok (.imul, 1) := by decide +kernel
theorem dX7_meet_56 : decode cX7_meet 56 = .ok (.iload_n 2, 1) := by decide +kernel
theorem dX7_meet_57 : decode cX7_meet 57 = .ok (.iadd, 1) := by decide +kernel
theorem dX7_meet_58 : decode cX7_meet 58 = .ok (.iaload, 1) := by decide +kernel
theorem dX7_meet_59 : decode cX7_meet 59 = .ok (.iload_n 3, 1) := by decide +kernel
theorem dX7_meet_60 : decode cX7_meet 60 = .ok (.invokestatic 55, 3) := by decide +kernel
theorem dX7_meet_63 : decode cX7_meet 63 = .ok (.iastore, 1) := by decide +kernel
theorem dX7_meet_64 : decode cX7_meet 64 = .ok (.aload_n 0, 1) := by decide +kernel
theorem dX7_meet_65 : decode cX7_meet 65 = .ok (.getfield 13, 3) := by decide +kernel
theorem dX7_meet_68 : decode cX7_meet 68 = .ok (.iconst 5, 1) := by decide +kernel
theorem dX7_meet_69 : decode cX7_meet 69 = .ok (.iload_n 2, 1) := by decide +kernel
theorem dX7_meet_70 : decode cX7_meet 70 = .ok (.imul, 1) := by decide +kernel
theorem dX7_meet_71 : decode cX7_meet 71 = .ok (.iload_n 1, 1) := by decide +kernel
theorem dX7_meet_72 : decode cX7_meet 72 = .ok (.iadd, 1) := by decide +kernel
theorem dX7_meet_73 : decode cX7_meet 73 = .ok (.aload_n 0, 1) := by decide +kernel
theorem dX7_meet_74 : decode cX7_meet 74 = .ok (.getfield 13, 3) := by decide +kernel
theorem dX7_meet_77 : decode cX7_meet 77 = .ok (.iconst 5, 1) := by decide +kernel
theorem dX7_meet_78 : decode cX7_meet 78 = .ok (.iload_n 2, 1) := by decide +kernel
theorem dX7_meet_79 : decode cX7_meet 79 = .ok (.imul, 1) := by decide +kernel
theorem dX7_meet_80 : decode cX7_meet 80 = .ok (.iload_n 1, 1) := by decide +kernel
theorem dX7_meet_81 : decode cX7_meet 81 = .ok (.iadd, 1) := by decide +kernel
theorem dX7_meet_82 : decode cX7_meet 82 = .ok (.iaload, 1) := by decide +kernel
theorem dX7_meet_83 : decode cX7_meet 83 = .ok (.iload_n 3, 1) := by decide +kernel
theorem dX7_meet_84 : decode cX7_meet 84 = .ok (.invokestatic 55, 3) := by decide +kernel
theorem dX7_meet_87 : decode cX7_meet 87 = .ok (.iastore, 1) := by decide +kernel
theorem dX7_meet_88 : decode cX7_meet 88 = .ok (.iload_n 3, 1) := by decide +kernel
theorem dX7_meet_89 : decode cX7_meet 89 = .ok (.ireturn, 1) := by decide +kernel
set_option maxRecDepth 20000 in
theorem ggX7_remembers_X7_areFriends : GoodIn wsX7_remembers wsX7_areFriends := goodIn_r _ [5, 6, 7, 4, 8, 9, 10, 11] (by decide +kernel) (by decide +kernel)
set_option maxRecDepth 20000 in
theorem gX7_remembers_X7_areFriends : GoodIn wsX7_remembers (va_wsS RX7 58 yX7_areFriends wsX7_areFriends) := goodIn_app (goodIn_of _ (by decide +kernel)) ggX7_remembers_X7_areFriends
theorem dX7_remembers_0 : decode cX7_remembers 0 = .ok (.iload_n 1, 1) := by decide +kernel
theorem dX7_remembers_1 : decode cX7_remembers 1 = .ok (.iload_n 2, 1) := by decide +kernel
theorem dX7_remembers_2 : decode cX7_remembers 2 = .ok (.invokestatic 58, 3) := by decide +kernel
theorem dX7_remembers_5 : decode cX7_remembers 5 = .ok (.ifCond .eq 16, 3) := by decide +kernel
theorem dX7_remembers_8 : decode cX7_remembers 8 = .ok (.aload_n 0, 1) := by decide +kernel
theorem dX7_remembers_9 : decode cX7_remembers 9 = .ok (.getfield 13, 3) := by decide +kernel
theorem dX7_remembers_12 : decode cX7_remembers 12 = .ok (.iconst 5, 1) := by decide +kernel
theorem dX7_remembers_13 : decode cX7_remembers 13 = .ok (.iload_n 1, 1) := by decide +kernel
theorem dX7_remembers_14 : decode cX7_remembers 14 = .ok (.imul, 1) := by decide +kernel
theorem dX7_remembers_15 : decode cX7_remembers 15 = .ok (.iload_n 2, 1) := by decide +kernel
theorem dX7_remembers_16 : decode cX7_remembers 16 = .ok (.iadd, 1) := by decide +kernel
theorem dX7_remembers_17 : decode cX7_remembers 17 = .ok (.iaload, 1) := by decide +kernel
theorem dX7_remembers_18 : decode cX7_remembers 18 = .ok (.goto 4, 3) := by decide +kernel
theorem dX7_remembers_21 : decode cX7_remembers 21 = .ok (.iconst (-1), 1) := by decide +kernel
theorem dX7_remembers_22 : decode cX7_remembers 22 = .ok (.ireturn, 1) := by decide +kernel
set_option maxRecDepth 20000 in
theorem ggX7_fall_X7_areFriends : GoodIn wsX7_fall wsX7_areFriends := goodIn_r _ [5, 6, 7, 4, 8, 9, 10, 11] (by decide +kernel) (by decide +kernel)
set_option maxRecDepth 20000 in
theorem gX7_fall_X7_areFriends : GoodIn wsX7_fall (va_wsS RX7 58 yX7_areFriends wsX7_areFriends) := goodIn_app (goodIn_of _ (by decide +kernel)) ggX7_fall_X7_areFriends
set_option maxRecDepth 20000 in
theorem ggX7_fall_X7_isIn : GoodIn wsX7_fall wsX7_isIn := goodIn_r _ [11] (by decide +kernel) (by decide +kernel)
set_option maxRecDepth 20000 in
theorem gX7_fall_X7_isIn : GoodIn wsX7_fall (va_wsS RX7 37 yX7_isIn wsX7_isIn) := goodIn_app (goodIn_of _ (by decide +kernel)) ggX7_fall_X7_isIn
set_option maxRecDepth 20000 in
theorem ggX7_fall_X7_least : GoodIn wsX7_fall wsX7_least := goodIn_r _ [15, 16, 1, 17, 18, 19, 4, 20, 21, 22, 23, 24, 25, 26, 27, 28, 29, 30, 31, 32, 33, 34, 35, 36, 37, 38, 39, 40, 41, 42, 43, 44, 45, 46, 47, 48, 49, 50, 51, 52, 53, 54, 55, 56, 57, 58, 59, 60, 61] (by decide +kernel) (by decide +kernel)
set_option maxRecDepth 20000 in
theorem gX7_fall_X7_least : GoodIn wsX7_fall (wsV RX7 104 RX7 yX7_least wsX7_least) := goodIn_app (goodIn_of _ (by decide +kernel)) ggX7_fall_X7_least
theorem dX7_fall_0 : decode cX7_fall 0 = .ok (.iload_n 1, 1) := by decide +kernel
theorem dX7_fall_1 : decode cX7_fall 1 = .ok (.iload_n 2, 1) := by decide +kernel
theorem dX7_fall_2 : decode cX7_fall 2 = .ok (.invokestatic 58, 3) := by decide +kernel
theorem dX7_fall_5 : decode cX7_fall 5 = .ok (.ifCond .eq 29, 3) := by decide +kernel
theorem dX7_fall_8 : decode cX7_fall 8 = .ok (.iload_n 3, 1) := by decide +kernel
theorem dX7_fall_9 : decode cX7_fall 9 = .ok (.iconst 0, 1) := by decide +kernel
theorem dX7_fall_10 : decode cX7_fall 10 = .ok (.iconst 3, 1) := by decide +kernel
theorem dX7_fall_11 : decode cX7_fall 11 = .ok (.invokestatic 37, 3) := by decide +kernel
theorem dX7_fall_14 : decode cX7_fall 14 = .ok (.ifCond .eq 20, 3) := by decide +kernel
theorem dX7_fall_17 : decode cX7_fall 17 = .ok (.aload_n 0, 1) := by decide +kernel
theorem dX7_fall_18 : decode cX7_fall 18 = .ok (.iload_n 1, 1) := by decide +kernel
theorem dX7_fall_19 : decode cX7_fall 19 = .ok (.iload_n 2, 1) := by decide +kernel
theorem dX7_fall_20 : decode cX7_fall 20 = .ok (.iload_n 3, 1) := by decide +kernel
theorem dX7_fall_21 : decode cX7_fall 21 = .ok (.aload_n 0, 1) := by decide +kernel
theorem dX7_fall_22 : decode cX7_fall 22 = .ok (.getfield 7, 3) := by decide +kernel
theorem dX7_fall_25 : decode cX7_fall 25 = .ok (.bipush 7, 2) := by decide +kernel
theorem dX7_fall_27 : decode cX7_fall 27 = .ok (.iaload, 1) := by decide +kernel
theorem dX7_fall_28 : decode cX7_fall 28 = .ok (.invokevirtual 104, 3) := by decide +kernel
theorem dX7_fall_31 : decode cX7_fall 31 = .ok (.goto 4, 3) := by decide +kernel
theorem dX7_fall_34 : decode cX7_fall 34 = .ok (.iconst (-1), 1) := by decide +kernel
theorem dX7_fall_35 : decode cX7_fall 35 = .ok (.ireturn, 1) := by decide +kernel
set_option maxRecDepth 20000 in
theorem ggX7_apart_X7_areFriends : GoodIn wsX7_apart wsX7_areFriends := goodIn_r _ [5, 6, 7, 4, 8, 9, 10, 11] (by decide +kernel) (by decide +kernel)
set_option maxRecDepth 20000 in
theorem gX7_apart_X7_areFriends : GoodIn wsX7_apart (va_wsS RX7 58 yX7_areFriends wsX7_areFriends) := goodIn_app (goodIn_of _ (by decide +kernel)) ggX7_apart_X7_areFriends
set_option maxRecDepth 20000 in
theorem ggX7_apart_X7_least : GoodIn wsX7_apart wsX7_least := goodIn_r _ [15, 16, 1, 17, 18, 19, 4, 20, 21, 22, 23, 24, 25, 26, 27, 28, 29, 30, 31, 32, 33, 34, 35, 36, 37, 38, 39, 40, 41, 42, 43, 44, 45, 46, 47, 48, 49, 50, 51, 52, 53, 54, 55, 56, 57, 58, 59, 60, 61] (by decide +kernel) (by decide +kernel)
set_option maxRecDepth 20000 in
theorem gX7_apart_X7_least : GoodIn wsX7_apart (wsV RX7 104 RX7 yX7_least wsX7_least) := goodIn_app (goodIn_of _ (by decide +kernel)) ggX7_apart_X7_least
theorem dX7_apart_0 : decode cX7_apart 0 = .ok (.iload_n 1, 1) := by decide +kernel
theorem dX7_apart_1 : decode cX7_apart 1 = .ok (.iload_n 2, 1) := by decide +kernel
theorem dX7_apart_2 : decode cX7_apart 2 = .ok (.invokestatic 58, 3) := by decide +kernel
theorem dX7_apart_5 : decode cX7_apart 5 = .ok (.ifCond .eq 20, 3) := by decide +kernel
theorem dX7_apart_8 : decode cX7_apart 8 = .ok (.aload_n 0, 1) := by decide +kernel
theorem dX7_apart_9 : decode cX7_apart 9 = .ok (.iload_n 1, 1) := by decide +kernel
theorem dX7_apart_10 : decode cX7_apart 10 = .ok (.iload_n 2, 1) := by decide +kernel
theorem dX7_apart_11 : decode cX7_apart 11 = .ok (.iconst (-1), 1) := by decide +kernel
theorem dX7_apart_12 : decode cX7_apart 12 = .ok (.aload_n 0, 1) := by decide +kernel
theorem dX7_apart_13 : decode cX7_apart 13 = .ok (.getfield 7, 3) := by decide +kernel
theorem dX7_apart_16 : decode cX7_apart 16 = .ok (.bipush 7, 2) := by decide +kernel
theorem dX7_apart_18 : decode cX7_apart 18 = .ok (.iaload, 1) := by decide +kernel
theorem dX7_apart_19 : decode cX7_apart 19 = .ok (.invokevirtual 104, 3) := by decide +kernel
theorem dX7_apart_22 : decode cX7_apart 22 = .ok (.goto 4, 3) := by decide +kernel
theorem dX7_apart_25 : decode cX7_apart 25 = .ok (.iconst (-1), 1) := by decide +kernel
theorem dX7_apart_26 : decode cX7_apart 26 = .ok (.ireturn, 1) := by decide +kernel
set_option maxRecDepth 20000 in
theorem ggX7_row_X7_areFriends : GoodIn wsX7_row wsX7_areFriends := goodIn_r _ [11, 12, 13, 10, 14, 15, 16, 17] (by decide +kernel) (by decide +kernel)
set_option maxRecDepth 20000 in
theorem gX7_row_X7_areFriends : GoodIn wsX7_row (va_wsS RX7 58 yX7_areFriends wsX7_areFriends) := goodIn_app (goodIn_of _ (by decide +kernel)) ggX7_row_X7_areFriends
set_option maxRecDepth 20000 in
theorem ggX7_row_X7_isIn : GoodIn wsX7_row wsX7_isIn := goodIn_r _ [17] (by decide +kernel) (by decide +kernel)
set_option maxRecDepth 20000 in
theorem gX7_row_X7_isIn : GoodIn wsX7_row (va_wsS RX7 37 yX7_isIn wsX7_isIn) := goodIn_app (goodIn_of _ (by decide +kernel)) ggX7_row_X7_isIn
set_option maxRecDepth 20000 in
theorem ggX7_row_X7_least : GoodIn wsX7_row wsX7_least := goodIn_r _ [21, 2, 1, 22, 23, 24, 10, 25, 26, 27, 28, 29, 30, 31, 32, 33, 34, 35, 36, 37, 38, 39, 40, 3, 4, 6, 5, 7, 41, 42, 43, 44, 45, 46, 47, 48, 49, 50, 51, 52, 53, 54, 55, 56, 57, 58, 59, 60, 61] (by decide +kernel) (by decide +kernel)
set_option maxRecDepth 20000 in
theorem gX7_row_X7_least : GoodIn wsX7_row (wsV RX7 104 RX7 yX7_least wsX7_least) := goodIn_app (goodIn_of _ (by decide +kernel)) ggX7_row_X7_least
theorem dX7_row_0 : decode cX7_row 0 = .ok (.iload_n 1, 1) := by decide +kernel
theorem dX7_row_1 : decode cX7_row 1 = .ok (.iload_n 2, 1) := by decide +kernel
theorem dX7_row_2 : decode cX7_row 2 = .ok (.invokestatic 58, 3) := by decide +kernel
theorem dX7_row_5 : decode cX7_row 5 = .ok (.ifCond .eq 55, 3) := by decide +kernel
theorem dX7_row_8 : decode cX7_row 8 = .ok (.iload_n 3, 1) := by decide +kernel
theorem dX7_row_9 : decode cX7_row 9 = .ok (.iconst (-1), 1) := by decide +kernel
theorem dX7_row_10 : decode cX7_row 10 = .ok (.iconst 3, 1) := by decide +kernel
theorem dX7_row_11 : decode cX7_row 11 = .ok (.invokestatic 37, 3) := by decide +kernel
theorem dX7_row_14 : decode cX7_row 14 = .ok (.ifCond .eq 46, 3) := by decide +kernel
theorem dX7_row_17 : decode cX7_row 17 = .ok (.iload 5, 2) := by decide +kernel
theorem dX7_row_19 : decode cX7_row 19 = .ok (.iconst 0, 1) := by decide +kernel
theorem dX7_row_20 : decode cX7_row 20 = .ok (.iconst 1, 1) := by decide +kernel
theorem dX7_row_21 : decode cX7_row 21 = .ok (.invokestatic 37, 3) := by decide +kernel
theorem dX7_row_24 : decode cX7_row 24 = .ok (.ifCond .eq 36, 3) := by decide +kernel
theorem dX7_row_27 : decode cX7_row 27 = .ok (.aload_n 0, 1) := by decide +kernel
theorem dX7_row_28 : decode cX7_row 28 = .ok (.iload_n 1, 1) := by decide +kernel
theorem dX7_row_29 : decode cX7_row 29 = .ok (.iload_n 2, 1) := by decide +kernel
theorem dX7_row_30 : decode cX7_row 30 = .ok (.iload_n 3, 1) := by decide +kernel
theorem dX7_row_31 : decode cX7_row 31 = .ok (.aload_n 0, 1) := by decide +kernel
theorem dX7_row_32 : decode cX7_row 32 = .ok (.getfield 7, 3) := by decide +kernel
theorem dX7_row_35 : decode cX7_row 35 = .ok (.bipush 7, 2) := by decide +kernel
theorem dX7_row_37 : decode cX7_row 37 = .ok (.iaload, 1) := by decide +kernel
theorem dX7_row_38 : decode cX7_row 38 = .ok (.invokevirtual 104, 3) := by decide +kernel
theorem dX7_row_41 : decode cX7_row 41 = .ok (.iconst (-1), 1) := by decide +kernel
theorem dX7_row_42 : decode cX7_row 42 = .ok (.if_icmp .eq 18, 3) := by decide +kernel
theorem dX7_row_45 : decode cX7_row 45 = .ok (.iload 4, 2) := by decide +kernel
theorem dX7_row_47 : decode cX7_row 47 = .ok (.iconst 0, 1) := by decide +kernel
theorem dX7_row_48 : decode cX7_row 48 = .ok (.aload_n 0, 1) := by decide +kernel
theorem dX7_row_49 : decode cX7_row 49 = .ok (.getfield 69, 3) := by decide +kernel
theorem dX7_row_52 : decode cX7_row 52 = .ok (.iconst 1, 1) := by decide +kernel
theorem dX7_row_53 : decode cX7_row 53 = .ok (.isub, 1) := by decide +kernel
theorem dX7_row_54 : decode cX7_row 54 = .ok (.invokestatic 37, 3) := by decide +kernel
theorem dX7_row_57 : decode cX7_row 57 = .ok (.ifCond .ne 5, 3) := by decide +kernel
theorem dX7_row_60 : decode cX7_row 60 = .ok (.iconst (-1), 1) := by decide +kernel
