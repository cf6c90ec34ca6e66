set_option maxRecDepth 20000 in
theorem ggX5_writeMusts_X5_putByte : GoodIn wsX5_writeMusts wsX5_putByte := goodIn_r _ [78, 79, 80, 81, 86, 87, 88, 89] (by decide +kernel) (by decide +kernel)
set_option maxRecDepth 20000 in
theorem gX5_writeMusts_X5_putByte : GoodIn wsX5_writeMusts (wsV RX5 44 RX5 yX5_putByte wsX5_putByte) := goodIn_app (goodIn_of _ (by decide +kernel)) ggX5_writeMusts_X5_putByte
theorem dX5_writeMusts_0 : decode cX5_writeMusts 0 = .ok (.iconst 0, 1) := by decide +kernel
theorem dX5_writeMusts_1 : decode cX5_writeMusts 1 = .ok (.istore_n 1, 1) := by decide +kernel
theorem dX5_writeMusts_2 : decode cX5_writeMusts 2 = .ok (.iload_n 1, 1) := by decide +kernel
theorem dX5_writeMusts_3 : decode cX5_writeMusts 3 = .ok (.iconst 5, 1) := by decide +kernel
theorem dX5_writeMusts_4 : decode cX5_writeMusts 4 = .ok (.if_icmp .ge 58, 3) := by decide +kernel
theorem dX5_writeMusts_7 : decode cX5_writeMusts 7 = .ok (.iload_n 1, 1) := by decide +kernel
theorem dX5_writeMusts_8 : decode cX5_writeMusts 8 = .ok (.iconst 1, 1) := by decide +kernel
theorem dX5_writeMusts_9 : decode cX5_writeMusts 9 = .ok (.iadd, 1) := by decide +kernel
theorem dX5_writeMusts_10 : decode cX5_writeMusts 10 = .ok (.istore_n 2, 1) := by decide +kernel
theorem dX5_writeMusts_11 : decode cX5_writeMusts 11 = .ok (.iload_n 2, 1) := by decide +kernel
theorem dX5_writeMusts_12 : decode cX5_writeMusts 12 = .ok (.iconst 5, 1) := by decide +kernel
theorem dX5_writeMusts_13 : decode cX5_writeMusts 13 = .ok (.if_icmp .ge 43, 3) := by decide +kernel
theorem dX5_writeMusts_16 : decode cX5_writeMusts 16 = .ok (.aload_n 0, 1) := by decide +kernel
theorem dX5_writeMusts_17 : decode cX5_writeMusts 17 = .ok (.getfield 9, 3) := by decide +kernel
theorem dX5_writeMusts_20 : decode cX5_writeMusts 20 = .ok (.iload_n 1, 1) := by decide +kernel
theorem dX5_writeMusts_21 : decode cX5_writeMusts 21 = .ok (.iload_n 2, 1) := by decide +kernel
theorem dX5_writeMusts_22 : decode cX5_writeMusts 22 = .ok (.invokevirtual 88, 3) := by decide +kernel
theorem dX5_writeMusts_25 : decode cX5_writeMusts 25 = .ok (.ifCond .eq 25, 3) := by decide +kernel
theorem dX5_writeMusts_28 : decode cX5_writeMusts 28 = .ok (.aload_n 0, 1) := by decide +kernel
theorem dX5_writeMusts_29 : decode cX5_writeMusts 29 = .ok (.ldc 92, 2) := by decide +kernel
theorem dX5_writeMusts_31 : decode cX5_writeMusts 31 = .ok (.invokevirtual 36, 3) := by decide +kernel
theorem dX5_writeMusts_34 : decode cX5_writeMusts 34 = .ok (.aload_n 0, 1) := by decide +kernel
theorem dX5_writeMusts_35 : decode cX5_writeMusts 35 = .ok (.iload_n 1, 1) := by decide +kernel
theorem dX5_writeMusts_36 : decode cX5_writeMusts 36 = .ok (.invokevirtual 52, 3) := by decide +kernel
theorem dX5_writeMusts_39 : decode cX5_writeMusts 39 = .ok (.aload_n 0, 1) := by decide +kernel
theorem dX5_writeMusts_40 : decode cX5_writeMusts 40 = .ok (.iload_n 2, 1) := by decide +kernel
theorem dX5_writeMusts_41 : decode cX5_writeMusts 41 = .ok (.invokevirtual 52, 3) := by decide +kernel
theorem dX5_writeMusts_44 : decode cX5_writeMusts 44 = .ok (.aload_n 0, 1) := by decide +kernel
theorem dX5_writeMusts_45 : decode cX5_writeMusts 45 = .ok (.bipush 59, 2) := by decide +kernel
theorem dX5_writeMusts_47 : decode cX5_writeMusts 47 = .ok (.invokevirtual 44, 3) := by decide +kernel
theorem dX5_writeMusts_50 : decode cX5_writeMusts 50 = .ok (.iinc 2 1, 3) := by decide +kernel
theorem dX5_writeMusts_53 : decode cX5_writeMusts 53 = .ok (.goto (-42), 3) := by decide +kernel
theorem dX5_writeMusts_56 : decode cX5_writeMusts 56 = .ok (.iinc 1 1, 3) := by decide +kernel
theorem dX5_writeMusts_59 : decode cX5_writeMusts 59 = .ok (.goto (-57), 3) := by decide +kernel
theorem dX5_writeMusts_62 : decode cX5_writeMusts 62 = .ok (.return_, 1) := by decide +kernel
set_option maxRecDepth 20000 in
theorem ggX5_putMendName_X5_put : GoodIn wsX5_putMendName wsX5_put := goodIn_r _ [5, 6, 7, 8, 9, 10, 11, 12, 13, 14, 15, 16, 17, 18, 19, 20, 21, 22, 23, 24, 25, 26, 27, 28, 29, 30, 31, 32, 33, 34, 35, 36, 37, 38, 39, 40, 41, 42, 43, 44, 45, 46, 47, 48, 49, 50, 51, 52, 53, 54, 55, 56, 57, 4, 58, 59, 60, 61, 66, 67, 68, 69] (by decide +kernel) (by decide +kernel)
set_option maxRecDepth 20000 in
theorem gX5_putMendName_X5_put : GoodIn wsX5_putMendName (wsV RX5 36 RX5 yX5_put wsX5_put) := goodIn_app (goodIn_of _ (by decide +kernel)) ggX5_putMendName_X5_put
set_option maxRecDepth 20000 in
theorem ggX5_putMendName_X5_putNumber : GoodIn wsX5_putMendName wsX5_putNumber := goodIn_r _ [65, 55, 56, 57, 4, 58, 59, 60, 61, 66, 67, 68, 69] (by decide +kernel) (by decide +kernel)
set_option maxRecDepth 20000 in
theorem gX5_putMendName_X5_putNumber : GoodIn wsX5_putMendName (wsV RX5 52 RX5 yX5_putNumber wsX5_putNumber) := goodIn_app (goodIn_of _ (by decide +kernel)) ggX5_putMendName_X5_putNumber
theorem dX5_putMendName_0 : decode cX5_putMendName 0 = .ok (.iload_n 1, 1) := by decide +kernel
theorem dX5_putMendName_1 : decode cX5_putMendName 1 = .ok (.tableswitch 54 0 2 #[27, 36, 45], 27) := by decide +kernel
theorem dX5_putMendName_28 : decode cX5_putMendName 28 = .ok (.aload_n 0, 1) := by decide +kernel
theorem dX5_putMendName_29 : decode cX5_putMendName 29 = .ok (.ldc 94, 2) := by decide +kernel
theorem dX5_putMendName_31 : decode cX5_putMendName 31 = .ok (.invokevirtual 36, 3) := by decide +kernel
theorem dX5_putMendName_34 : decode cX5_putMendName 34 = .ok (.goto 34, 3) := by decide +kernel
theorem dX5_putMendName_37 : decode cX5_putMendName 37 = .ok (.aload_n 0, 1) := by decide +kernel
theorem dX5_putMendName_38 : decode cX5_putMendName 38 = .ok (.ldc 96, 2) := by decide +kernel
theorem dX5_putMendName_40 : decode cX5_putMendName 40 = .ok (.invokevirtual 36, 3) := by decide +kernel
theorem dX5_putMendName_43 : decode cX5_putMendName 43 = .ok (.goto 25, 3) := by decide +kernel
theorem dX5_putMendName_46 : decode cX5_putMendName 46 = .ok (.aload_n 0, 1) := by decide +kernel
theorem dX5_putMendName_47 : decode cX5_putMendName 47 = .ok (.ldc 98, 2) := by decide +kernel
theorem dX5_putMendName_49 : decode cX5_putMendName 49 = .ok (.invokevirtual 36, 3) := by decide +kernel
theorem dX5_putMendName_52 : decode cX5_putMendName 52 = .ok (.goto 16, 3) := by decide +kernel
theorem dX5_putMendName_55 : decode cX5_putMendName 55 = .ok (.aload_n 0, 1) := by decide +kernel
theorem dX5_putMendName_56 : decode cX5_putMendName 56 = .ok (.ldc 100, 2) := by decide +kernel
theorem dX5_putMendName_58 : decode cX5_putMendName 58 = .ok (.invokevirtual 36, 3) := by decide +kernel
theorem dX5_putMendName_61 : decode cX5_putMendName 61 = .ok (.aload_n 0, 1) := by decide +kernel
theorem dX5_putMendName_62 : decode cX5_putMendName 62 = .ok (.iload_n 1, 1) := by decide +kernel
theorem dX5_putMendName_63 : decode cX5_putMendName 63 = .ok (.iconst 3, 1) := by decide +kernel
theorem dX5_putMendName_64 : decode cX5_putMendName 64 = .ok (.isub, 1) := by decide +kernel
theorem dX5_putMendName_65 : decode cX5_putMendName 65 = .ok (.invokevirtual 52, 3) := by decide +kernel
theorem dX5_putMendName_68 : decode cX5_putMendName 68 = .ok (.return_, 1) := by decide +kernel
set_option maxRecDepth 20000 in
theorem ggX5_putWays_X6_holds : GoodIn wsX5_putWays wsX6_holds := goodIn_r _ [3] (by decide +kernel) (by decide +kernel)
set_option maxRecDepth 20000 in
theorem gX5_putWays_X6_holds_n102 : GoodIn wsX5_putWays (wsX6_holds) := ggX5_putWays_X6_holds
set_option maxRecDepth 20000 in
theorem ggX5_putWays_X5_putNumber : GoodIn wsX5_putWays wsX5_putNumber := goodIn_r _ [8, 9, 10, 11, 7, 12, 13, 14, 15, 16, 17, 18, 19] (by decide +kernel) (by decide +kernel)
set_option maxRecDepth 20000 in
theorem gX5_putWays_X5_putNumber : GoodIn wsX5_putWays (wsV RX5 52 RX5 yX5_putNumber wsX5_putNumber) := goodIn_app (goodIn_of _ (by decide +kernel)) ggX5_putWays_X5_putNumber
theorem dX5_putWays_0 : decode cX5_putWays 0 = .ok (.iconst 0, 1) := by decide +kernel
theorem dX5_putWays_1 : decode cX5_putWays 1 = .ok (.istore_n 2, 1) := by decide +kernel
theorem dX5_putWays_2 : decode cX5_putWays 2 = .ok (.iload_n 2, 1) := by decide +kernel
theorem dX5_putWays_3 : decode cX5_putWays 3 = .ok (.iconst 4, 1) := by decide +kernel
theorem dX5_putWays_4 : decode cX5_putWays 4 = .ok (.if_icmp .ge 22, 3) := by decide +kernel
theorem dX5_putWays_7 : decode cX5_putWays 7 = .ok (.iload_n 1, 1) := by decide +kernel
theorem dX5_putWays_8 : decode cX5_putWays 8 = .ok (.iload_n 2, 1) := by decide +kernel
theorem dX5_putWays_9 : decode cX5_putWays 9 = .ok (.invokestatic 102, 3) := by decide +kernel
theorem dX5_putWays_12 : decode cX5_putWays 12 = .ok (.ifCond .eq 8, 3) := by decide +kernel
theorem dX5_putWays_15 : decode cX5_putWays 15 = .ok (.aload_n 0, 1) := by decide +kernel
theorem dX5_putWays_16 : decode cX5_putWays 16 = .ok (.iload_n 2, 1) := by decide +kernel
theorem dX5_putWays_17 : decode cX5_putWays 17 = .ok (.invokevirtual 52, 3) := by decide +kernel
theorem dX5_putWays_20 : decode cX5_putWays 20 = .ok (.iinc 2 1, 3) := by decide +kernel
theorem dX5_putWays_23 : decode cX5_putWays 23 = .ok (.goto (-21), 3) := by decide +kernel
theorem dX5_putWays_26 : decode cX5_putWays 26 = .ok (.return_, 1) := by decide +kernel
set_option maxRecDepth 20000 in
theorem ggX5_putNumber_X5_putByte : GoodIn wsX5_putNumber wsX5_putByte := goodIn_r _ [5, 6, 7, 8, 9, 10, 11, 12] (by decide +kernel) (by decide +kernel)
set_option maxRecDepth 20000 in
theorem gX5_putNumber_X5_putByte : GoodIn wsX5_putNumber (wsV RX5 44 RX5 yX5_putByte wsX5_putByte) := goodIn_app (goodIn_of _ (by decide +kernel)) ggX5_putNumber_X5_putByte
theorem dX5_putNumber_0 : decode cX5_putNumber 0 = .ok (.aload_n 0, 1) := by decide +kernel
theorem dX5_putNumber_1 : decode cX5_putNumber 1 = .ok (.bipush 32, 2) := by decide +kernel
theorem dX5_putNumber_3 : decode cX5_putNumber 3 = .ok (.invokevirtual 44, 3) := by decide +kernel
theorem dX5_putNumber_6 : decode cX5_putNumber 6 = .ok (.iload_n 1, 1) := by decide +kernel
theorem dX5_putNumber_7 : decode cX5_putNumber 7 = .ok (.bipush 100, 2) := by decide +kernel
theorem dX5_putNumber_9 : decode cX5_putNumber 9 = .ok (.if_icmp .lt 17, 3) := by decide +kernel
theorem dX5_putNumber_12 : decode cX5_putNumber 12 = .ok (.aload_n 0, 1) := by decide +kernel
theorem dX5_putNumber_13 : decode cX5_putNumber 13 = .ok (.bipush 48, 2) := by decide +kernel
theorem dX5_putNumber_15 : decode cX5_putNumber 15 = .ok (.iload_n 1, 1) := by decide +kernel
theorem dX5_putNumber_16 : decode cX5_putNumber 16 = .ok (.bipush 100, 2) := by decide +kernel
theorem dX5_putNumber_18 : decode cX5_putNumber 18 = .ok (.idiv, 1) := by decide +kernel
theorem dX5_putNumber_19 : decode cX5_putNumber 19 = .ok (.bipush 10, 2) := by decide +kernel
theorem dX5_putNumber_21 : decode cX5_putNumber 21 = .ok (.irem, 1) := by decide +kernel
theorem dX5_putNumber_22 : decode cX5_putNumber 22 = .ok (.iadd, 1) := by decide +kernel
theorem dX5_putNumber_23 : decode cX5_putNumber 23 = .ok (.invokevirtual 44, 3) := by decide +kernel
theorem dX5_putNumber_26 : decode cX5_putNumber 26 = .ok (.iload_n 1, 1) := by decide +kernel
theorem dX5_putNumber_27 : decode cX5_putNumber 27 = .ok (.bipush 10, 2) := by decide +kernel
theorem dX5_putNumber_29 : decode cX5_putNumber 29 = .ok (.if_icmp .lt 17, 3) := by decide +kernel
theorem dX5_putNumber_32 : decode cX5_putNumber 32 = .ok (.aload_n 0, 1) := by decide +kernel
theorem dX5_putNumber_33 : decode cX5_putNumber 33 = .ok (.bipush 48, 2) := by decide +kernel
theorem dX5_putNumber_35 : decode cX5_putNumber 35 = .ok (.iload_n 1, 1) := by decide +kernel
theorem dX5_putNumber_36 : decode cX5_putNumber 36 = .ok (.bipush 10, 2) := by decide +kernel
theorem dX5_putNumber_38 : decode cX5_putNumber 38 = .ok (.idiv, 1) := by decide +kernel
theorem dX5_putNumber_39 : decode cX5_putNumber 39 = .ok (.bipush 10, 2) := by decide +kernel
theorem dX5_putNumber_41 : decode cX5_putNumber 41 = .ok (.irem, 1) := by decide +kernel
theorem dX5_putNumber_42 : decode cX5_putNumber 42 = .ok (.iadd, 1) := by decide +kernel
theorem dX5_putNumber_43 : decode cX5_putNumber 43 = .ok (.invokevirtual 44, 3) := by decide +kernel
theorem dX5_putNumber_46 : decode cX5_putNumber 46 = .ok (.aload_n 0, 1) := by decide +kernel
theorem dX5_putNumber_47 : decode cX5_putNumber 47 = .ok (.bipush 48, 2) := by decide +kernel
theorem dX5_putNumber_49 : decode cX5_putNumber 49 = .ok (.iload_n 1, 1) := by decide +kernel
theorem dX5_putNumber_50 : decode cX5_putNumber 50 = .ok (.bipush 10, 2) := by decide +kernel
theorem dX5_putNumber_52 : decode cX5_putNumber 52 = .ok (.irem, 1) := by decide +kernel
theorem dX5_putNumber_53 : decode cX5_putNumber 53 = .ok (.iadd, 1) := by decide +kernel
theorem dX5_putNumber_54 : decode cX5_putNumber 54 = .ok (.invokevirtual 44, 3) := by decide +kernel
theorem dX5_putNumber_57 : decode cX5_putNumber 57 = .ok (.return_, 1) := by decide +kernel
set_option maxRecDepth 20000 in
theorem ggX5_put_J0_length_8abf5 : GoodIn wsX5_put wsJ0_length_8abf5 := goodIn_r _ [5, 6, 7, 8, 9, 4, 10, 11, 12] (by decide +kernel) (by decide +kernel)
set_option maxRecDepth 20000 in
theorem gX5_put_J0_length_8abf5 : GoodIn wsX5_put (wsV RX5 105 RJ0 yJ0_length_8abf5 wsJ0_length_8abf5) := goodIn_app (goodIn_of _ (by decide +kernel)) ggX5_put_J0_length_8abf5
set_option maxRecDepth 20000 in
theorem ggX5_put_J0_charAt_5068e : GoodIn wsX5_put wsJ0_charAt_5068e := goodIn_r _ [16, 6, 17, 18, 19, 4, 20, 11, 12, 21, 22, 23, 24, 25, 26, 27, 28, 29, 30, 31, 32, 33, 34, 35, 36, 37, 38, 39, 40, 41, 42, 43, 44, 45, 46, 47, 48, 49] (by decide +kernel) (by decide +kernel)
set_option maxRecDepth 20000 in
theorem gX5_put_J0_charAt_5068e : GoodIn wsX5_put (wsV RX5 110 RJ0 yJ0_charAt_5068e wsJ0_charAt_5068e) := goodIn_app (goodIn_of _ (by decide +kernel)) ggX5_put_J0_charAt_5068e
set_option maxRecDepth 20000 in
theorem ggX5_put_X5_putByte : GoodIn wsX5_put wsX5_putByte := goodIn_r _ [54, 55, 56, 57, 58, 59, 60, 61] (by decide +kernel) (by decide +kernel)
set_option maxRecDepth 20000 in
theorem gX5_put_X5_putByte : GoodIn wsX5_put (wsV RX5 44 RX5 yX5_putByte wsX5_putByte) := goodIn_app (goodIn_of _ (by decide +kernel)) ggX5_put_X5_putByte
theorem dX5_put_0 : decode cX5_put 0 = .ok (.iconst 0, 1) := by decide +kernel
theorem dX5_put_1 : decode cX5_put 1 = .ok (.istore_n 2, 1) := by decide +kernel
theorem dX5_put_2 : decode cX5_put 2 = .ok (.iload_n 2, 1) := by decide +kernel
theorem dX5_put_3 : decode cX5_put 3 = .ok (.aload_n 1, 1) := by decide +kernel
theorem dX5_put_4 : decode cX5_put 4 = .ok (.invokevirtual 105, 3) := by decide +kernel
theorem dX5_put_7 : decode cX5_put 7 = .ok (.if_icmp .ge 18, 3) := by decide +kernel
theorem dX5_put_10 : decode cX5_put 10 = .ok (.aload_n 0, 1) := by decide +kernel
theorem dX5_put_11 : decode cX5_put 11 = .ok (.aload_n 1, 1) := by decide +kernel
theorem dX5_put_12 : decode cX5_put 12 = .ok (.iload_n 2, 1) := by decide +kernel
theorem dX5_put_13 : decode cX5_put 13 = .ok (.invokevirtual 110, 3) := by decide +kernel
theorem dX5_put_16 : decode cX5_put 16 = .ok (.invokevirtual 44, 3) := by decide +kernel
theorem dX5_put_19 : decode cX5_put 19 = .ok (.iinc 2 1, 3) := by decide +kernel
theorem dX5_put_22 : decode cX5_put 22 = .ok (.goto (-20), 3) := by decide +kernel
theorem dX5_put_25 : decode cX5_put 25 = .ok (.return_, 1) := by decide +kernel
theorem dX5_putByte_0 : decode cX5_putByte 0 = .ok (.aload_n 0, 1) := by decide +kernel
theorem dX5_putByte_1 : decode cX5_putByte 1 = .ok (.getfield 19, 3) := by decide +kernel
theorem dX5_putByte_4 : decode cX5_putByte 4 = .ok (.aload_n 0, 1) := by decide +kernel
theorem dX5_putByte_5 : decode cX5_putByte 5 = .ok (.getfield 22, 3) := by decide +kernel
theorem dX5_putByte_8 : decode cX5_putByte 8 = .ok (.if_icmp .ne 8, 3) := by decide +kernel
theorem dX5_putByte_11 : decode cX5_putByte 11 = .ok (.aload_n 0, 1) := by decide +kernel
theorem dX5_putByte_12 : decode cX5_putByte 12 = .ok (.iload_n 1, 1) := by decide +kernel
theorem dX5_putByte_13 : decode cX5_putByte 13 = .ok (.putfield 15, 3) := by decide +kernel
theorem dX5_putByte_16 : decode cX5_putByte 16 = .ok (.aload_n 0, 1) := by decide +kernel
theorem dX5_putByte_17 : decode cX5_putByte 17 = .ok (.dup, 1) := by decide +kernel
theorem dX5_putByte_18 : decode cX5_putByte 18 = .ok (.getfield 19, 3) := by decide +kernel
theorem dX5_putByte_21 : decode cX5_putByte 21 = .ok (.iconst 1, 1) := by decide +kernel
theorem dX5_putByte_22 : decode cX5_putByte 22 = .ok (.iadd, 1) := by decide +kernel
theorem dX5_putByte_23 : decode cX5_putByte 23 = .ok (.putfield 19, 3) := by decide +kernel
theorem dX5_putByte_26 : decode cX5_putByte 26 = .ok (.return_, 1) := by decide +kernel
set_option maxRecDepth 20000 in
theorem ggX6_init_X4_init : GoodIn wsX6_init wsX4_init := goodIn_r _ [32, 33, 2, 3, 34, 35, 36, 37, 38, 39, 40, 6, 41, 42, 43, 44, 45, 77, 78, 79, 80, 81, 82, 83] (by decide +kernel) (by decide +kernel)
set_option maxRecDepth 20000 in
theorem gX6_init_X4_init : GoodIn wsX6_init (wsX4_init) := ggX6_init_X4_init
set_option maxRecDepth 20000 in
theorem ggX6_init_X3_init : GoodIn wsX6_init wsX3_init := goodIn_r _ [48, 49, 2, 3, 34, 50, 92, 93] (by decide +kernel) (by decide +kernel)
set_option maxRecDepth 20000 in
theorem gX6_init_X3_init : GoodIn wsX6_init (wsX3_init) := ggX6_init_X3_init
set_option maxRecDepth 20000 in
theorem ggX6_init_X2_init : GoodIn wsX6_init wsX2_init := goodIn_r _ [53, 54, 2, 3, 55, 56, 57, 94, 95, 96, 97, 98, 99, 100] (by decide +kernel) (by decide +kernel)
set_option maxRecDepth 20000 in
theorem gX6_init_X2_init : GoodIn wsX6_init (wsX2_init) := ggX6_init_X2_init
set_option maxRecDepth 20000 in
theorem ggX6_init_X5_init : GoodIn wsX6_init wsX5_init := goodIn_r _ [60, 61, 2, 3, 62, 63, 101, 102, 103, 104] (by decide +kernel) (by decide +kernel)
set_option maxRecDepth 20000 in
theorem gX6_init_X5_init : GoodIn wsX6_init (wsX5_init) := ggX6_init_X5_init
set_option maxRecDepth 20000 in
theorem ggX6_init_X0_init : GoodIn wsX6_init wsX0_init := goodIn_r _ [66, 67, 2, 3, 68, 69, 105, 106, 107, 108, 109, 110, 111, 112, 113, 114, 115, 116] (by decide +kernel) (by decide +kernel)
set_option maxRecDepth 20000 in
theorem gX6_init_X0_init : GoodIn wsX6_init (wsX0_init) := ggX6_init_X0_init
set_option maxRecDepth 20000 in
theorem ggX6_init_X1_init : GoodIn wsX6_init wsX1_init := goodIn_r _ [72, 73, 2, 3, 74, 75, 76, 117, 118, 119, 120] (by decide +kernel) (by decide +kernel)
set_option maxRecDepth 20000 in
theorem gX6_init_X1_init : GoodIn wsX6_init (wsX1_init) := ggX6_init_X1_init
theorem dX6_init_0 : decode cX6_init 0 = .ok (.aload_n 0, 1) := by decide +kernel
theorem dX6_init_1 : decode cX6_init 1 = .ok (.invokespecial 1, 3) := by decide +kernel
theorem dX6_init_4 : decode cX6_init 4 = .ok (.aload_n 0, 1) := by decide +kernel
theorem dX6_init_5 : decode cX6_init 5 = .ok (.new 7, 3) := by decide +kernel
theorem dX6_init_8 : decode cX6_init 8 = .ok (.dup, 1) := by decide +kernel
theorem dX6_init_9 : decode cX6_init 9 = .ok (.invokespecial 9, 3) := by decide +kernel
theorem dX6_init_12 : decode cX6_init 12 = .ok (.putfield 10, 3) := by decide +kernel
theorem dX6_init_15 : decode cX6_init 15 = .ok (.aload_n 0, 1) := by decide +kernel
theorem dX6_init_16 : decode cX6_init 16 = .ok (.new 7, 3) := by decide +kernel
theorem dX6_init_19 : decode cX6_init 19 = .ok (.dup, 1) := by decide +kernel
theorem dX6_init_20 : decode cX6_init 20 = .ok (.invokespecial 9, 3) := by decide +kernel
theorem dX6_init_23 : decode cX6_init 23 = .ok (.putfield 16, 3) := by decide +kernel
theorem dX6_init_26 : decode cX6_init 26 = .ok (.aload_n 0, 1) := by decide +kernel
theorem dX6_init_27 : decode cX6_init 27 = .ok (.new 19, 3) := by decide +kernel
theorem dX6_init_30 : decode cX6_init 30 = .ok (.dup, 1) := by decide +kernel
theorem dX6_init_31 : decode cX6_init 31 = .ok (.invokespecial 21, 3) := by decide +kernel
theorem dX6_init_34 : decode cX6_init 34 = .ok (.putfield 22, 3) := by decide +kernel
theorem dX6_init_37 : decode cX6_init 37 = .ok (.aload_n 0, 1) := by decide +kernel
theorem dX6_init_38 : decode cX6_init 38 = .ok (.new 26, 3) := by decide +kernel
theorem dX6_init_41 : decode cX6_init 41 = .ok (.dup, 1) := by decide +kernel
theorem dX6_init_42 : decode cX6_init 42 = .ok (.aload_n 0, 1) := by decide +kernel
theorem dX6_init_43 : decode cX6_init 43 = .ok (.getfield 22, 3) := by decide +kernel
theorem dX6_init_46 : decode cX6_init 46 = .ok (.aload_n 0, 1) := by decide +kernel
theorem dX6_init_47 : decode cX6_init 47 = .ok (.getfield 16, 3) := by decide +kernel
theorem dX6_init_50 : decode cX6_init 50 = .ok (.invokespecial 28, 3) := by decide +kernel
theorem dX6_init_53 : decode cX6_init 53 = .ok (.putfield 31, 3) := by decide +kernel
theorem dX6_init_56 : decode cX6_init 56 = .ok (.aload_n 0, 1) := by decide +kernel
theorem dX6_init_57 : decode cX6_init 57 = .ok (.new 35, 3) := by decide +kernel
theorem dX6_init_60 : decode cX6_init 60 = .ok (.dup, 1) := by decide +kernel
theorem dX6_init_61 : decode cX6_init 61 = .ok (.aload_n 0, 1) := by decide +kernel
theorem dX6_init_62 : decode cX6_init 62 = .ok (.getfield 10, 3) := by decide +kernel
theorem dX6_init_65 : decode cX6_init 65 = .ok (.invokespecial 37, 3) := by decide +kernel
theorem dX6_init_68 : decode cX6_init 68 = .ok (.putfield 40, 3) := by decide +kernel
theorem dX6_init_71 : decode cX6_init 71 = .ok (.aload_n 0, 1) := by decide +kernel
theorem dX6_init_72 : decode cX6_init 72 = .ok (.new 44, 3) := by decide +kernel
theorem dX6_init_75 : decode cX6_init 75 = .ok (.dup, 1) := by decide +kernel
theorem dX6_init_76 : decode cX6_init 76 = .ok (.aload_n 0, 1) := by decide +kernel
theorem dX6_init_77 : decode cX6_init 77 = .ok (.getfield 10, 3) := by decide +kernel
theorem dX6_init_80 : decode cX6_init 80 = .ok (.invokespecial 46, 3) := by decide +kernel
theorem dX6_init_83 : decode cX6_init 83 = .ok (.putfield 47, 3) := by decide +kernel
theorem dX6_init_86 : decode cX6_init 86 = .ok (.aload_n 0, 1) := by decide +kernel
theorem dX6_init_87 : decode cX6_init 87 = .ok (.new 51, 3) := by decide +kernel
theorem dX6_init_90 : decode cX6_init 90 = .ok (.dup, 1) := by decide +kernel
theorem dX6_init_91 : decode cX6_init 91 = .ok (.aload_n 0, 1) := by decide +kernel
theorem dX6_init_92 : decode cX6_init 92 = .ok (.getfield 10, 3) := by decide +kernel
theorem dX6_init_95 : decode cX6_init 95 = .ok (.aload_n 0, 1) := by decide +kernel
theorem dX6_init_96 : decode cX6_init 96 = .ok (.getfield 47, 3) := by decide +kernel
theorem dX6_init_99 : decode cX6_init 99 = .ok (.invokespecial 53, 3) := by decide +kernel
theorem dX6_init_102 : decode cX6_init 102 = .ok (.putfield 56, 3) := by decide +kernel
theorem dX6_init_105 : decode cX6_init 105 = .ok (.aload_n 0, 1) := by decide +kernel
theorem dX6_init_106 : decode cX6_init 106 = .ok (.iconst (-1), 1) := by decide +kernel
theorem dX6_init_107 : decode cX6_init 107 = .ok (.putfield 60, 3) := by decide +kernel
theorem dX6_init_110 : decode cX6_init 110 = .ok (.return_, 1) := by decide +kernel
set_option maxRecDepth 20000 in
theorem ggX6_feed_X3_hasSpace : GoodIn wsX6_feed wsX3_hasSpace := goodIn_r _ [6, 7, 25, 26] (by decide +kernel) (by decide +kernel)
set_option maxRecDepth 20000 in
theorem gX6_feed_X3_hasSpace : GoodIn wsX6_feed (wsV RX6 64 RX3 yX3_hasSpace wsX3_hasSpace) := goodIn_app (goodIn_of _ (by decide +kernel)) ggX6_feed_X3_hasSpace
set_option maxRecDepth 20000 in
theorem ggX6_feed_X3_append : GoodIn wsX6_feed wsX3_append := goodIn_r _ [11, 7, 12, 25, 26] (by decide +kernel) (by decide +kernel)
set_option maxRecDepth 20000 in
theorem gX6_feed_X3_append : GoodIn wsX6_feed (wsV RX6 68 RX3 yX3_append wsX3_append) := goodIn_app (goodIn_of _ (by decide +kernel)) ggX6_feed_X3_append
set_option maxRecDepth 20000 in
theorem ggX6_feed_X3_size : GoodIn wsX6_feed wsX3_size := goodIn_r _ [16, 7, 25, 26] (by decide +kernel) (by decide +kernel)
set_option maxRecDepth 20000 in
theorem gX6_feed_X3_size : GoodIn wsX6_feed (wsV RX6 72 RX3 yX3_size wsX3_size) := goodIn_app (goodIn_of _ (by decide +kernel)) ggX6_feed_X3_size
theorem dX6_feed_0 : decode cX6_feed 0 = .ok (.aload_n 0, 1) := by decide +kernel
theorem dX6_feed_1 : decode cX6_feed 1 = .ok (.getfield 22, 3) := by decide +kernel
theorem dX6_feed_4 : decode cX6_feed 4 = .ok (.invokevirtual 64, 3) := by decide +kernel
theorem dX6_feed_7 : decode cX6_feed 7 = .ok (.ifCond .ne 5, 3) := by decide +kernel
theorem dX6_feed_10 : decode cX6_feed 10 = .ok (.iconst (-1), 1) := by decide +kernel
theorem dX6_feed_11 : decode cX6_feed 11 = .ok (.ireturn, 1) := by decide +kernel
theorem dX6_feed_12 : decode cX6_feed 12 = .ok (.aload_n 0, 1) := by decide +kernel
theorem dX6_feed_13 : decode cX6_feed 13 = .ok (.getfield 22, 3) := by decide +kernel
theorem dX6_feed_16 : decode cX6_feed 16 = .ok (.iload_n 1, 1) := by decide +kernel
theorem dX6_feed_17 : decode cX6_feed 17 = .ok (.invokevirtual 68, 3) := by decide +kernel
theorem dX6_feed_20 : decode cX6_feed 20 = .ok (.aload_n 0, 1) := by decide +kernel
theorem dX6_feed_21 : decode cX6_feed 21 = .ok (.getfield 22, 3) := by decide +kernel
theorem dX6_feed_24 : decode cX6_feed 24 = .ok (.iload_n 2, 1) := by decide +kernel
theorem dX6_feed_25 : decode cX6_feed 25 = .ok (.invokevirtual 68, 3) := by decide +kernel
theorem dX6_feed_28 : decode cX6_feed 28 = .ok (.aload_n 0, 1) := by decide +kernel
theorem dX6_feed_29 : decode cX6_feed 29 = .ok (.getfield 22, 3) := by decide +kernel
theorem dX6_feed_32 : decode cX6_feed 32 = .ok (.iload_n 3, 1) := by decide +kernel
theorem dX6_feed_33 : decode cX6_feed 33 = .ok (.invokevirtual 68, 3) := by decide +kernel
theorem dX6_feed_36 : decode cX6_feed 36 = .ok (.aload_n 0, 1) := by decide +kernel
theorem dX6_feed_37 : decode cX6_feed 37 = .ok (.getfield 22, 3) := by decide +kernel
theorem dX6_feed_40 : decode cX6_feed 40 = .ok (.iload 4, 2) := by decide +kernel
theorem dX6_feed_42 : decode cX6_feed 42 = .ok (.invokevirtual 68, 3) := by decide +kernel
theorem dX6_feed_45 : decode cX6_feed 45 = .ok (.aload_n 0, 1) := by decide +kernel
theorem dX6_feed_46 : decode cX6_feed 46 = .ok (.getfield 22, 3) := by decide +kernel
theorem dX6_feed_49 : decode cX6_feed 49 = .ok (.iload 5, 2) := by decide +kernel
theorem dX6_feed_51 : decode cX6_feed 51 = .ok (.invokevirtual 68, 3) := by decide +kernel
theorem dX6_feed_54 : decode cX6_feed 54 = .ok (.aload_n 0, 1) := by decide +kernel
theorem dX6_feed_55 : decode cX6_feed 55 = .ok (.getfield 22, 3) := by decide +kernel
theorem dX6_feed_58 : decode cX6_feed 58 = .ok (.invokevirtual 72, 3) := by decide +kernel
theorem dX6_feed_61 : decode cX6_feed 61 = .ok (.ireturn, 1) := by decide +kernel
set_option maxRecDepth 20000 in
theorem ggX6_tells_X3_size : GoodIn wsX6_tells wsX3_size := goodIn_r _ [10, 11, 206, 207] (by decide +kernel) (by decide +kernel)
set_option maxRecDepth 20000 in
theorem gX6_tells_X3_size : GoodIn wsX6_tells (wsV RX6 72 RX3 yX3_size wsX3_size) := goodIn_app (goodIn_of _ (by decide +kernel)) ggX6_tells_X3_size
set_option maxRecDepth 20000 in
theorem ggX6_tells_X3_cutTo : GoodIn wsX6_tells wsX3_cutTo := goodIn_r _ [15, 11, 16, 17, 18, 19, 20, 21, 22, 206, 207] (by decide +kernel) (by decide +kernel)
set_option maxRecDepth 20000 in
theorem gX6_tells_X3_cutTo : GoodIn wsX6_tells (wsV RX6 76 RX3 yX3_cutTo wsX3_cutTo) := goodIn_app (goodIn_of _ (by decide +kernel)) ggX6_tells_X3_cutTo
set_option maxRecDepth 20000 in
theorem ggX6_tells_X2_readText : GoodIn wsX6_tells wsX2_readText := goodIn_r _ [27, 28, 29, 30, 31, 32, 33, 34, 35, 36, 37, 38, 39, 40, 41, 42, 43, 44, 45, 46, 47, 26, 48, 49, 50, 51, 7, 8, 9, 10, 11, 52, 53, 54, 55, 56, 57, 58, 59, 60, 61, 62, 63, 64, 65, 66, 67, 68, 69, 70, 71, 72, 73, 74, 75, 76, 77, 78, 79, 80, 81, 82, 83, 84, 85, 86, 87, 88, 89, 90, 91, 92, 93, 94, 95, 96, 97, 98, 99, 100, 101, 102, 103, 104, 105, 106, 107, 108, 109, 110, 111, 112, 113, 114, 115, 116, 117, 118, 119, 120, 121, 122, 123, 124, 125, 126, 127, 128, 129, 130, 131, 132, 133, 134, 135, 136, 137, 138, 139, 140, 141, 142, 143, 144, 145, 146, 147, 148, 149, 150, 151, 152, 153, 154, 155, 156, 157, 158, 159, 160, 161, 162, 163, 164, 165, 166, 167, 168, 169, 170, 171, 172, 173, 174, 175, 176, 177, 178, 179, 180, 181, 17, 18, 19, 182, 21, 22, 183, 184, 185, 208, 209, 210, 211, 212, 213, 214, 215, 216, 217, 218, 219, 220, 221, 206, 207] (by decide +kernel) (by decide +kernel)
set_option maxRecDepth 20000 in
theorem gX6_tells_X2_readText : GoodIn wsX6_tells (wsV RX6 79 RX2 yX2_readText wsX2_readText) := goodIn_app (goodIn_of _ (by decide +kernel)) ggX6_tells_X2_readText
set_option maxRecDepth 20000 in
theorem ggX6_tells_X2_faultFound : GoodIn wsX6_tells wsX2_faultFound := goodIn_r _ [189, 30, 208, 209, 210, 211, 212, 213, 214] (by decide +kernel) (by decide +kernel)
set_option maxRecDepth 20000 in
theorem gX6_tells_X2_faultFound : GoodIn wsX6_tells (wsV RX6 82 RX2 yX2_faultFound wsX2_faultFound) := goodIn_app (goodIn_of _ (by decide +kernel)) ggX6_tells_X2_faultFound
set_option maxRecDepth 20000 in
theorem ggX6_tells_X4_copyFrom : GoodIn wsX6_tells wsX4_copyFrom := goodIn_r _ [193, 38, 194, 195, 196, 197, 39, 40, 41, 42, 43, 44, 215, 216, 217, 218, 219, 220, 221] (by decide +kernel) (by decide +kernel)
set_option maxRecDepth 20000 in
theorem gX6_tells_X4_copyFrom : GoodIn wsX6_tells (wsV RX6 85 RX4 yX4_copyFrom wsX4_copyFrom) := goodIn_app (goodIn_of _ (by decide +kernel)) ggX6_tells_X4_copyFrom
theorem dX6_tells_0 : decode cX6_tells 0 = .ok (.iload_n 1, 1) := by decide +kernel
theorem dX6_tells_1 : decode cX6_tells 1 = .ok (.ifCond .lt 14, 3) := by decide +kernel
theorem dX6_tells_4 : decode cX6_tells 4 = .ok (.iload_n 1, 1) := by decide +kernel
theorem dX6_tells_5 : decode cX6_tells 5 = .ok (.aload_n 0, 1) := by decide +kernel
theorem dX6_tells_6 : decode cX6_tells 6 = .ok (.getfield 22, 3) := by decide +kernel
theorem dX6_tells_9 : decode cX6_tells 9 = .ok (.invokevirtual 72, 3) := by decide +kernel
theorem dX6_tells_12 : decode cX6_tells 12 = .ok (.if_icmp .le 6, 3) := by decide +kernel
theorem dX6_tells_15 : decode cX6_tells 15 = .ok (.bipush (-2), 2) := by decide +kernel
theorem dX6_tells_17 : decode cX6_tells 17 = .ok (.ireturn, 1) := by decide +kernel
theorem dX6_tells_18 : decode cX6_tells 18 = .ok (.aload_n 0, 1) := by decide +kernel
theorem dX6_tells_19 : decode cX6_tells 19 = .ok (.getfield 22, 3) := by decide +kernel
theorem dX6_tells_22 : decode cX6_tells 22 = .ok (.iload_n 1, 1) := by decide +kernel
theorem dX6_tells_23 : decode cX6_tells 23 = .ok (.invokevirtual 76, 3) := by decide +kernel
theorem dX6_tells_26 : decode cX6_tells 26 = .ok (.aload_n 0, 1) := by decide +kernel
theorem dX6_tells_27 : decode cX6_tells 27 = .ok (.getfield 31, 3) := by decide +kernel
theorem dX6_tells_30 : decode cX6_tells 30 = .ok (.invokevirtual 79, 3) := by decide +kernel
theorem dX6_tells_33 : decode cX6_tells 33 = .ok (.istore_n 2, 1) := by decide +kernel
theorem dX6_tells_34 : decode cX6_tells 34 = .ok (.aload_n 0, 1) := by decide +kernel
theorem dX6_tells_35 : decode cX6_tells 35 = .ok (.aload_n 0, 1) := by decide +kernel
theorem dX6_tells_36 : decode cX6_tells 36 = .ok (.getfield 31, 3) := by decide +kernel
theorem dX6_tells_39 : decode cX6_tells 39 = .ok (.invokevirtual 82, 3) := by decide +kernel
theorem dX6_tells_42 : decode cX6_tells 42 = .ok (.putfield 60, 3) := by decide +kernel
theorem dX6_tells_45 : decode cX6_tells 45 = .ok (.aload_n 0, 1) := by decide +kernel
theorem dX6_tells_46 : decode cX6_tells 46 = .ok (.getfield 22, 3) := by decide +kernel
theorem dX6_tells_49 : decode cX6_tells 49 = .ok (.iconst 0, 1) := by decide +kernel
theorem dX6_tells_50 : decode cX6_tells 50 = .ok (.invokevirtual 76, 3) := by decide +kernel
theorem dX6_tells_53 : decode cX6_tells 53 = .ok (.iload_n 2, 1) := by decide +kernel
theorem dX6_tells_54 : decode cX6_tells 54 = .ok (.iconst (-1), 1) := by decide +kernel
theorem dX6_tells_55 : decode cX6_tells 55 = .ok (.if_icmp .eq 14, 3) := by decide +kernel
theorem dX6_tells_58 : decode cX6_tells 58 = .ok (.aload_n 0, 1) := by decide +kernel
theorem dX6_tells_59 : decode cX6_tells 59 = .ok (.getfield 10, 3) := by decide +kernel
theorem dX6_tells_62 : decode cX6_tells 62 = .ok (.aload_n 0, 1) := by decide +kernel
theorem dX6_tells_63 : decode cX6_tells 63 = .ok (.getfield 16, 3) := by decide +kernel
theorem dX6_tells_66 : decode cX6_tells 66 = .ok (.invokevirtual 85, 3) := by decide +kernel
theorem dX6_tells_69 : decode cX6_tells 69 = .ok (.iload_n 2, 1) := by decide +kernel
theorem dX6_tells_70 : decode cX6_tells 70 = .ok (.ireturn, 1) := by decide +kernel
theorem dX6_fault_0 : decode cX6_fault 0 = .ok (.aload_n 0, 1) := by decide +kernel
theorem dX6_fault_1 : decode cX6_fault 1 = .ok (.getfield 60, 3) := by decide +kernel
theorem dX6_fault_4 : decode cX6_fault 4 = .ok (.ireturn, 1) := by decide +kernel
set_option maxRecDepth 20000 in
theorem ggX6_text_X5_writeAll : GoodIn wsX6_text wsX5_writeAll := goodIn_r _ [6, 7, 8, 9, 10, 11, 12, 13, 5, 14, 15, 16, 17, 18, 19, 20, 21, 22, 23, 24, 25, 26, 27, 28, 29, 30, 31, 32, 33, 34, 35, 36, 37, 38, 39, 40, 41, 42, 43, 44, 45, 46, 47, 48, 49, 50, 51, 52, 53, 54, 55, 56, 57, 58, 59, 60, 61, 62, 63, 64, 65, 66, 67, 68, 69, 70, 71, 72, 73, 74, 75, 76, 77, 78, 79, 80, 81, 82, 83, 84, 85, 86, 87, 88, 89, 90, 91, 92, 93, 94, 95, 96, 97, 98, 99, 100, 101, 102, 103, 104, 105, 106, 107, 108, 109, 110, 111, 112, 113, 114, 115, 116, 117, 118, 119, 120, 121, 122, 123, 124, 125, 126, 127, 128, 129, 130, 131, 132, 133, 134, 135, 136, 137, 138, 139, 152, 153, 154, 155, 156, 157, 158, 159, 160, 161, 162] (by decide +kernel) (by decide +kernel)
set_option maxRecDepth 20000 in
theorem gX6_text_X5_writeAll : GoodIn wsX6_text (wsV RX6 88 RX5 yX5_writeAll wsX5_writeAll) := goodIn_app (goodIn_of _ (by decide +kernel)) ggX6_text_X5_writeAll
set_option maxRecDepth 20000 in
theorem ggX6_text_X5_letterFound : GoodIn wsX6_text wsX5_letterFound := goodIn_r _ [143, 9, 152, 153, 154, 155] (by decide +kernel) (by decide +kernel)
set_option maxRecDepth 20000 in
theorem gX6_text_X5_letterFound : GoodIn wsX6_text (wsV RX6 92 RX5 yX5_letterFound wsX5_letterFound) := goodIn_app (goodIn_of _ (by decide +kernel)) ggX6_text_X5_letterFound
theorem dX6_text_0 : decode cX6_text 0 = .ok (.aload_n 0, 1) := by decide +kernel
theorem dX6_text_1 : decode cX6_text 1 = .ok (.getfield 40, 3) := by decide +kernel
theorem dX6_text_4 : decode cX6_text 4 = .ok (.iload_n 1, 1) := by decide +kernel
theorem dX6_text_5 : decode cX6_text 5 = .ok (.invokevirtual 88, 3) := by decide +kernel
theorem dX6_text_8 : decode cX6_text 8 = .ok (.istore_n 2, 1) := by decide +kernel
theorem dX6_text_9 : decode cX6_text 9 = .ok (.iload_n 1, 1) := by decide +kernel
theorem dX6_text_10 : decode cX6_text 10 = .ok (.iconst (-1), 1) := by decide +kernel
theorem dX6_text_11 : decode cX6_text 11 = .ok (.if_icmp .ne 7, 3) := by decide +kernel
theorem dX6_text_14 : decode cX6_text 14 = .ok (.iload_n 2, 1) := by decide +kernel
theorem dX6_text_15 : decode cX6_text 15 = .ok (.goto 10, 3) := by decide +kernel
theorem dX6_text_18 : decode cX6_text 18 = .ok (.aload_n 0, 1) := by decide +kernel
theorem dX6_text_19 : decode cX6_text 19 = .ok (.getfield 40, 3) := by decide +kernel
theorem dX6_text_22 : decode cX6_text 22 = .ok (.invokevirtual 92, 3) := by decide +kernel
theorem dX6_text_25 : decode cX6_text 25 = .ok (.ireturn, 1) := by decide +kernel
set_option maxRecDepth 20000 in
theorem ggX6_ways_X6_isFriend : GoodIn wsX6_ways wsX6_isFriend := goodIn_r _ [5] (by decide +kernel) (by decide +kernel)
set_option maxRecDepth 20000 in
theorem gX6_ways_X6_isFriend : GoodIn wsX6_ways (va_wsS RX6 95 yX6_isFriend wsX6_isFriend) := goodIn_app (goodIn_of _ (by decide +kernel)) ggX6_ways_X6_isFriend
set_option maxRecDepth 20000 in
theorem ggX6_ways_X6_isWaySet : GoodIn wsX6_ways wsX6_isWaySet := goodIn_r _ [8] (by decide +kernel) (by decide +kernel)
set_option maxRecDepth 20000 in
theorem gX6_ways_X6_isWaySet : GoodIn wsX6_ways (va_wsS RX6 99 yX6_isWaySet wsX6_isWaySet) := goodIn_app (goodIn_of _ (by decide +kernel)) ggX6_ways_X6_isWaySet
set_option maxRecDepth 20000 in
theorem ggX6_ways_X4_giveWays : GoodIn wsX6_ways wsX4_giveWays := goodIn_r _ [13, 14, 23, 24, 25, 26, 27, 28, 29] (by decide +kernel) (by decide +kernel)
set_option maxRecDepth 20000 in
theorem gX6_ways_X4_giveWays : GoodIn wsX6_ways (wsV RX6 102 RX4 yX4_giveWays wsX4_giveWays) := goodIn_app (goodIn_of _ (by decide +kernel)) ggX6_ways_X4_giveWays
theorem dX6_ways_0 : decode cX6_ways 0 = .ok (.iload_n 1, 1) := by decide +kernel
theorem dX6_ways_1 : decode cX6_ways 1 = .ok (.invokestatic 95, 3) := by decide +kernel
theorem dX6_ways_4 : decode cX6_ways 4 = .ok (.ifCond .eq 10, 3) := by decide +kernel
theorem dX6_ways_7 : decode cX6_ways 7 = .ok (.iload_n 2, 1) := by decide +kernel
theorem dX6_ways_8 : decode cX6_ways 8 = .ok (.invokestatic 99, 3) := by decide +kernel
theorem dX6_ways_11 : decode cX6_ways 11 = .ok (.ifCond .ne 5, 3) := by decide +kernel
theorem dX6_ways_14 : decode cX6_ways 14 = .ok (.iconst 0, 1) := by decide +kernel
theorem dX6_ways_15 : decode cX6_ways 15 = .ok (.ireturn, 1) := by decide +kernel
theorem dX6_ways_16 : decode cX6_ways 16 = .ok (.aload_n 0, 1) := by decide +kernel
theorem dX6_ways_17 : decode cX6_ways 17 = .ok (.getfield 10, 3) := by decide +kernel
theorem dX6_ways_20 : decode cX6_ways 20 = .ok (.iload_n 1, 1) := by decide +kernel
theorem dX6_ways_21 : decode cX6_ways 21 = .ok (.iload_n 2, 1) := by decide +kernel
theorem dX6_ways_22 : decode cX6_ways 22 = .ok (.invokevirtual 102, 3) := by decide +kernel
theorem dX6_ways_25 : decode cX6_ways 25 = .ok (.iconst 1, 1) := by decide +kernel
theorem dX6_ways_26 : decode cX6_ways 26 = .ok (.ireturn, 1) := by decide +kernel
set_option maxRecDepth 20000 in
theorem ggX6_broken_X6_isWaySet : GoodIn wsX6_broken wsX6_isWaySet := goodIn_r _ [5] (by decide +kernel) (by decide +kernel)
set_option maxRecDepth 20000 in
theorem gX6_broken_X6_isWaySet : GoodIn wsX6_broken (va_wsS RX6 99 yX6_isWaySet wsX6_isWaySet) := goodIn_app (goodIn_of _ (by decide +kernel)) ggX6_broken_X6_isWaySet
set_option maxRecDepth 20000 in
theorem ggX6_broken_X4_breakWays : GoodIn wsX6_broken wsX4_breakWays := goodIn_r _ [10, 11, 20, 21, 22, 23, 24, 25, 26] (by decide +kernel) (by decide +kernel)
set_option maxRecDepth 20000 in
theorem gX6_broken_X4_breakWays : GoodIn wsX6_broken (wsV RX6 106 RX4 yX4_breakWays wsX4_breakWays) := goodIn_app (goodIn_of _ (by decide +kernel)) ggX6_broken_X4_breakWays
theorem dX6_broken_0 : decode cX6_broken 0 = .ok (.iload_n 1, 1) := by decide +kernel
theorem dX6_broken_1 : decode cX6_broken 1 = .ok (.invokestatic 99, 3) := by decide +kernel
theorem dX6_broken_4 : decode cX6_broken 4 = .ok (.ifCond .ne 5, 3) := by decide +kernel
theorem dX6_broken_7 : decode cX6_broken 7 = .ok (.iconst 0, 1) := by decide +kernel
theorem dX6_broken_8 : decode cX6_broken 8 = .ok (.ireturn, 1) := by decide +kernel
theorem dX6_broken_9 : decode cX6_broken 9 = .ok (.aload_n 0, 1) := by decide +kernel
theorem dX6_broken_10 : decode cX6_broken 10 = .ok (.getfield 10, 3) := by decide +kernel
theorem dX6_broken_13 : decode cX6_broken 13 = .ok (.iload_n 1, 1) := by decide +kernel
theorem dX6_broken_14 : decode cX6_broken 14 = .ok (.invokevirtual 106, 3) := by decide +kernel
theorem dX6_broken_17 : decode cX6_broken 17 = .ok (.iconst 1, 1) := by decide +kernel
theorem dX6_broken_18 : decode cX6_broken 18 = .ok (.ireturn, 1) := by decide +kernel
set_option maxRecDepth 20000 in
theorem ggX6_retries_X4_allowTries : GoodIn wsX6_retries wsX4_allowTries := goodIn_r _ [6, 7, 16, 17, 18, 19, 20, 21, 22] (by decide +kernel) (by decide +kernel)
set_option maxRecDepth 20000 in
theorem gX6_retries_X4_allowTries : GoodIn wsX6_retries (wsV RX6 109 RX4 yX4_allowTries wsX4_allowTries) := goodIn_app (goodIn_of _ (by decide +kernel)) ggX6_retries_X4_allowTries
theorem dX6_retries_0 : decode cX6_retries 0 = .ok (.iload_n 1, 1) := by decide +kernel
theorem dX6_retries_1 : decode cX6_retries 1 = .ok (.ifCond .lt 8, 3) := by decide +kernel
theorem dX6_retries_4 : decode cX6_retries 4 = .ok (.iload_n 1, 1) := by decide +kernel
theorem dX6_retries_5 : decode cX6_retries 5 = .ok (.iconst 3, 1) := by decide +kernel
theorem dX6_retries_6 : decode cX6_retries 6 = .ok (.if_icmp .le 5, 3) := by decide +kernel
theorem dX6_retries_9 : decode cX6_retries 9 = .ok (.iconst 0, 1) := by decide +kernel
theorem dX6_retries_10 : decode cX6_retries 10 = .ok (.ireturn, 1) := by decide +kernel
theorem dX6_retries_11 : decode cX6_retries 11 = .ok (.aload_n 0, 1) := by decide +kernel
theorem dX6_retries_12 : decode cX6_retries 12 = .ok (.getfield 10, 3) := by decide +kernel
theorem dX6_retries_15 : decode cX6_retries 15 = .ok (.iload_n 1, 1) := by decide +kernel
theorem dX6_retries_16 : decode cX6_retries 16 = .ok (.invokevirtual 109, 3) := by decide +kernel
theorem dX6_retries_19 : decode cX6_retries 19 = .ok (.iconst 1, 1) := by decide +kernel
theorem dX6_retries_20 : decode cX6_retries 20 = .ok (.ireturn, 1) := by decide +kernel
set_option maxRecDepth 20000 in
theorem ggX6_mend_X6_isMend : GoodIn wsX6_mend wsX6_isMend := goodIn_r _ [5] (by decide +kernel) (by decide +kernel)
set_option maxRecDepth 20000 in
theorem gX6_mend_X6_isMend : GoodIn wsX6_mend (va_wsS RX6 112 yX6_isMend wsX6_isMend) := goodIn_app (goodIn_of _ (by decide +kernel)) ggX6_mend_X6_isMend
set_option maxRecDepth 20000 in
theorem ggX6_mend_X4_isOn : GoodIn wsX6_mend wsX4_isOn := goodIn_r _ [10, 11, 12, 4, 13, 26, 27, 28, 29, 30, 31, 32] (by decide +kernel) (by decide +kernel)
set_option maxRecDepth 20000 in
theorem gX6_mend_X4_isOn : GoodIn wsX6_mend (wsV RX6 115 RX4 yX4_isOn wsX4_isOn) := goodIn_app (goodIn_of _ (by decide +kernel)) ggX6_mend_X4_isOn
set_option maxRecDepth 20000 in
theorem ggX6_mend_X4_switchMend : GoodIn wsX6_mend wsX4_switchMend := goodIn_r _ [17, 11, 26, 27, 28, 29, 30, 31, 32] (by decide +kernel) (by decide +kernel)
set_option maxRecDepth 20000 in
theorem gX6_mend_X4_switchMend : GoodIn wsX6_mend (wsV RX6 118 RX4 yX4_switchMend wsX4_switchMend) := goodIn_app (goodIn_of _ (by decide +kernel)) ggX6_mend_X4_switchMend
theorem dX6_mend_0 : decode cX6_mend 0 = .ok (.iload_n 1, 1) := by decide +kernel
theorem dX6_mend_1 : decode cX6_mend 1 = .ok (.invokestatic 112, 3) := by decide +kernel
theorem dX6_mend_4 : decode cX6_mend 4 = .ok (.ifCond .eq 15, 3) := by decide +kernel
theorem dX6_mend_7 : decode cX6_mend 7 = .ok (.aload_n 0, 1) := by decide +kernel
theorem dX6_mend_8 : decode cX6_mend 8 = .ok (.getfield 10, 3) := by decide +kernel
theorem dX6_mend_11 : decode cX6_mend 11 = .ok (.iload_n 1, 1) := by decide +kernel
theorem dX6_mend_12 : decode cX6_mend 12 = .ok (.invokevirtual 115, 3) := by decide +kernel
theorem dX6_mend_15 : decode cX6_mend 15 = .ok (.iload_n 2, 1) := by decide +kernel
theorem dX6_mend_16 : decode cX6_mend 16 = .ok (.if_icmp .ne 5, 3) := by decide +kernel
theorem dX6_mend_19 : decode cX6_mend 19 = .ok (.iconst 0, 1) := by decide +kernel
theorem dX6_mend_20 : decode cX6_mend 20 = .ok (.ireturn, 1) := by decide +kernel
theorem dX6_mend_21 : decode cX6_mend 21 = .ok (.aload_n 0, 1) := by decide +kernel
theorem dX6_mend_22 : decode cX6_mend 22 = .ok (.getfield 10, 3) := by decide +kernel
theorem dX6_mend_25 : decode cX6_mend 25 = .ok (.iload_n 1, 1) := by decide +kernel
theorem dX6_mend_26 : decode cX6_mend 26 = .ok (.iload_n 2, 1) := by decide +kernel
theorem dX6_mend_27 : decode cX6_mend 27 = .ok (.invokevirtual 118, 3) := by decide +kernel
theorem dX6_mend_30 : decode cX6_mend 30 = .ok (.iconst 1, 1) := by decide +kernel
theorem dX6_mend_31 : decode cX6_mend 31 = .ok (.ireturn, 1) := by decide +kernel
set_option maxRecDepth 20000 in
theorem ggX6_cost_X6_isMend : GoodIn wsX6_cost wsX6_isMend := goodIn_r _ [5] (by decide +kernel) (by decide +kernel)
set_option maxRecDepth 20000 in
theorem gX6_cost_X6_isMend : GoodIn wsX6_cost (va_wsS RX6 112 yX6_isMend wsX6_isMend) := goodIn_app (goodIn_of _ (by decide +kernel)) ggX6_cost_X6_isMend
set_option maxRecDepth 20000 in
theorem ggX6_cost_X4_priceMend : GoodIn wsX6_cost wsX4_priceMend := goodIn_r _ [10, 11, 20, 21, 22, 23, 24, 25, 26] (by decide +kernel) (by decide +kernel)
set_option maxRecDepth 20000 in
theorem gX6_cost_X4_priceMend : GoodIn wsX6_cost (wsV RX6 122 RX4 yX4_priceMend wsX4_priceMend) := goodIn_app (goodIn_of _ (by decide +kernel)) ggX6_cost_X4_priceMend
theorem dX6_cost_0 : decode cX6_cost 0 = .ok (.iload_n 1, 1) := by decide +kernel
theorem dX6_cost_1 : decode cX6_cost 1 = .ok (.invokestatic 112, 3) := by decide +kernel
theorem dX6_cost_4 : decode cX6_cost 4 = .ok (.ifCond .eq 13, 3) := by decide +kernel
theorem dX6_cost_7 : decode cX6_cost 7 = .ok (.iload_n 2, 1) := by decide +kernel
theorem dX6_cost_8 : decode cX6_cost 8 = .ok (.ifCond .lt 9, 3) := by decide +kernel
theorem dX6_cost_11 : decode cX6_cost 11 = .ok (.iload_n 2, 1) := by decide +kernel
theorem dX6_cost_12 : decode cX6_cost 12 = .ok (.bipush 100, 2) := by decide +kernel
theorem dX6_cost_14 : decode cX6_cost 14 = .ok (.if_icmp .le 5, 3) := by decide +kernel
theorem dX6_cost_17 : decode cX6_cost 17 = .ok (.iconst 0, 1) := by decide +kernel
theorem dX6_cost_18 : decode cX6_cost 18 = .ok (.ireturn, 1) := by decide +kernel
theorem dX6_cost_19 : decode cX6_cost 19 = .ok (.aload_n 0, 1) := by decide +kernel
theorem dX6_cost_20 : decode cX6_cost 20 = .ok (.getfield 10, 3) := by decide +kernel
theorem dX6_cost_23 : decode cX6_cost 23 = .ok (.iload_n 1, 1) := by decide +kernel
theorem dX6_cost_24 : decode cX6_cost 24 = .ok (.iload_n 2, 1) := by decide +kernel
theorem dX6_cost_25 : decode cX6_cost 25 = .ok (.invokevirtual 122, 3) := by decide +kernel
theorem dX6_cost_28 : decode cX6_cost 28 = .ok (.iconst 1, 1) := by decide +kernel
theorem dX6_cost_29 : decode cX6_cost 29 = .ok (.ireturn, 1) := by decide +kernel
set_option maxRecDepth 20000 in
theorem ggX6_best_X6_areUnlikeFriends : GoodIn wsX6_best wsX6_areUnlikeFriends := goodIn_r _ [5, 6, 7, 4, 8] (by decide +kernel) (by decide +kernel)
set_option maxRecDepth 20000 in
theorem gX6_best_X6_areUnlikeFriends : GoodIn wsX6_best (va_wsS RX6 125 yX6_areUnlikeFriends wsX6_areUnlikeFriends) := goodIn_app (goodIn_of _ (by decide +kernel)) ggX6_best_X6_areUnlikeFriends
set_option maxRecDepth 20000 in
theorem ggX6_best_X4_mendsOn : GoodIn wsX6_best wsX4_mendsOn := goodIn_r _ [13, 14, 34, 35, 36, 37, 38, 39, 40] (by decide +kernel) (by decide +kernel)
set_option maxRecDepth 20000 in
theorem gX6_best_X4_mendsOn : GoodIn wsX6_best (wsV RX6 129 RX4 yX4_mendsOn wsX4_mendsOn) := goodIn_app (goodIn_of _ (by decide +kernel)) ggX6_best_X4_mendsOn
set_option maxRecDepth 20000 in
theorem ggX6_best_X4_bestUnder : GoodIn wsX6_best wsX4_bestUnder := goodIn_r _ [18, 19, 20, 21, 12, 22, 23, 24, 4, 25, 34, 35, 36, 37, 38, 39, 40] (by decide +kernel) (by decide +kernel)
set_option maxRecDepth 20000 in
theorem gX6_best_X4_bestUnder : GoodIn wsX6_best (wsV RX6 132 RX4 yX4_bestUnder wsX4_bestUnder) := goodIn_app (goodIn_of _ (by decide +kernel)) ggX6_best_X4_bestUnder
theorem dX6_best_0 : decode cX6_best 0 = .ok (.iload_n 1, 1) := by decide +kernel
theorem dX6_best_1 : decode cX6_best 1 = .ok (.iload_n 2, 1) := by decide +kernel
theorem dX6_best_2 : decode cX6_best 2 = .ok (.invokestatic 125, 3) := by decide +kernel
theorem dX6_best_5 : decode cX6_best 5 = .ok (.ifCond .ne 5, 3) := by decide +kernel
theorem dX6_best_8 : decode cX6_best 8 = .ok (.iconst (-1), 1) := by decide +kernel
theorem dX6_best_9 : decode cX6_best 9 = .ok (.ireturn, 1) := by decide +kernel
theorem dX6_best_10 : decode cX6_best 10 = .ok (.aload_n 0, 1) := by decide +kernel
theorem dX6_best_11 : decode cX6_best 11 = .ok (.getfield 10, 3) := by decide +kernel
theorem dX6_best_14 : decode cX6_best 14 = .ok (.aload_n 0, 1) := by decide +kernel
theorem dX6_best_15 : decode cX6_best 15 = .ok (.getfield 10, 3) := by decide +kernel
theorem dX6_best_18 : decode cX6_best 18 = .ok (.invokevirtual 129, 3) := by decide +kernel
theorem dX6_best_21 : decode cX6_best 21 = .ok (.iload_n 1, 1) := by decide +kernel
theorem dX6_best_22 : decode cX6_best 22 = .ok (.iload_n 2, 1) := by decide +kernel
theorem dX6_best_23 : decode cX6_best 23 = .ok (.invokevirtual 132, 3) := by decide +kernel
theorem dX6_best_26 : decode cX6_best 26 = .ok (.ireturn, 1) := by decide +kernel
set_option maxRecDepth 20000 in
theorem ggX6_meet_X6_areUnlikeFriends : GoodIn wsX6_meet wsX6_areUnlikeFriends := goodIn_r _ [5, 6, 7, 4, 8] (by decide +kernel) (by decide +kernel)
set_option maxRecDepth 20000 in
theorem gX6_meet_X6_areUnlikeFriends : GoodIn wsX6_meet (va_wsS RX6 125 yX6_areUnlikeFriends wsX6_areUnlikeFriends) := goodIn_app (goodIn_of _ (by decide +kernel)) ggX6_meet_X6_areUnlikeFriends
set_option maxRecDepth 20000 in
theorem ggX6_meet_X4_mendsOn : GoodIn wsX6_meet wsX4_mendsOn := goodIn_r _ [13, 14, 50, 51, 52, 53, 54, 55, 56] (by decide +kernel) (by decide +kernel)
set_option maxRecDepth 20000 in
theorem gX6_meet_X4_mendsOn : GoodIn wsX6_meet (wsV RX6 129 RX4 yX4_mendsOn wsX4_mendsOn) := goodIn_app (goodIn_of _ (by decide +kernel)) ggX6_meet_X4_mendsOn
set_option maxRecDepth 20000 in
theorem ggX6_meet_X4_bestUnder : GoodIn wsX6_meet wsX4_bestUnder := goodIn_r _ [18, 19, 20, 21, 12, 22, 23, 24, 4, 25, 50, 51, 52, 53, 54, 55, 56] (by decide +kernel) (by decide +kernel)
set_option maxRecDepth 20000 in
theorem gX6_meet_X4_bestUnder : GoodIn wsX6_meet (wsV RX6 132 RX4 yX4_bestUnder wsX4_bestUnder) := goodIn_app (goodIn_of _ (by decide +kernel)) ggX6_meet_X4_bestUnder
set_option maxRecDepth 20000 in
theorem ggX6_meet_X4_memory : GoodIn wsX6_meet wsX4_memory := goodIn_r _ [29, 30, 31, 32, 12, 33, 50, 51, 52, 53, 54, 55, 56] (by decide +kernel) (by decide +kernel)
set_option maxRecDepth 20000 in
theorem gX6_meet_X4_memory : GoodIn wsX6_meet (wsV RX6 136 RX4 yX4_memory wsX4_memory) := goodIn_app (goodIn_of _ (by decide +kernel)) ggX6_meet_X4_memory
set_option maxRecDepth 20000 in
theorem ggX6_meet_X4_keepMeeting : GoodIn wsX6_meet wsX4_keepMeeting := goodIn_r _ [37, 30, 38, 39, 40, 41, 31, 32, 12, 33, 50, 51, 52, 53, 54, 55, 56] (by decide +kernel) (by decide +kernel)
set_option maxRecDepth 20000 in
theorem gX6_meet_X4_keepMeeting : GoodIn wsX6_meet (wsV RX6 140 RX4 yX4_keepMeeting wsX4_keepMeeting) := goodIn_app (goodIn_of _ (by decide +kernel)) ggX6_meet_X4_keepMeeting
theorem dX6_meet_0 : decode cX6_meet 0 = .ok (.iload_n 1, 1) := by decide +kernel
theorem dX6_meet_1 : decode cX6_meet 1 = .ok (.iload_n 2, 1) := by decide +kernel
theorem dX6_meet_2 : decode cX6_meet 2 = .ok (.invokestatic 125, 3) := by decide +kernel
theorem dX6_meet_5 : decode cX6_meet 5 = .ok (.ifCond .ne 5, 3) := by decide +kernel
theorem dX6_meet_8 : decode cX6_meet 8 = .ok (.iconst (-1), 1) := by decide +kernel
theorem dX6_meet_9 : decode cX6_meet 9 = .ok (.ireturn, 1) := by decide +kernel
theorem dX6_meet_10 : decode cX6_meet 10 = .ok (.aload_n 0, 1) := by decide +kernel
theorem dX6_meet_11 : decode cX6_meet 11 = .ok (.getfield 10, 3) := by decide +kernel
theorem dX6_meet_14 : decode cX6_meet 14 = .ok (.aload_n 0, 1) := by decide +kernel
theorem dX6_meet_15 : decode cX6_meet 15 = .ok (.getfield 10, 3) := by decide +kernel
theorem dX6_meet_18 : decode cX6_meet 18 = .ok (.invokevirtual 129, 3) := by decide +kernel
theorem dX6_meet_21 : decode cX6_meet 21 = .ok (.iload_n 1, 1) := by decide +kernel
theorem dX6_meet_22 : decode cX6_meet 22 = .ok (.iload_n 2, 1) := by decide +kernel
theorem dX6_meet_23 : decode cX6_meet 23 = .ok (.invokevirtual 132, 3) := by decide +kernel
theorem dX6_meet_26 : decode cX6_meet 26 = .ok (.istore_n 3, 1) := by decide +kernel
theorem dX6_meet_27 : decode cX6_meet 27 = .ok (.aload_n 0, 1) := by decide +kernel
theorem dX6_meet_28 : decode cX6_meet 28 = .ok (.getfield 10, 3) := by decide +kernel
theorem dX6_meet_31 : decode cX6_meet 31 = .ok (.invokevirtual 129, 3) := by decide +kernel
theorem dX6_meet_34 : decode cX6_meet 34 = .ok (.iconst 4, 1) := by decide +kernel
theorem dX6_meet_35 : decode cX6_meet 35 = .ok (.iand, 1) := by decide +kernel
theorem dX6_meet_36 : decode cX6_meet 36 = .ok (.ifCond .eq 7, 3) := by decide +kernel
theorem dX6_meet_39 : decode cX6_meet 39 = .ok (.iconst 1, 1) := by decide +kernel
theorem dX6_meet_40 : decode cX6_meet 40 = .ok (.goto 4, 3) := by decide +kernel
theorem dX6_meet_43 : decode cX6_meet 43 = .ok (.iconst 0, 1) := by decide +kernel
theorem dX6_meet_44 : decode cX6_meet 44 = .ok (.istore 4, 2) := by decide +kernel
theorem dX6_meet_46 : decode cX6_meet 46 = .ok (.iload_n 3, 1) := by decide +kernel
theorem dX6_meet_47 : decode cX6_meet 47 = .ok (.iconst (-1), 1) := by decide +kernel
theorem dX6_meet_48 : decode cX6_meet 48 = .ok (.if_icmp .eq 21, 3) := by decide +kernel
theorem dX6_meet_51 : decode cX6_meet 51 = .ok (.iload 4, 2) := by decide +kernel
theorem dX6_meet_53 : decode cX6_meet 53 = .ok (.ifCond .eq 18, 3) := by decide +kernel
theorem dX6_meet_56 : decode cX6_meet 56 = .ok (.iload_n 3, 1) := by decide +kernel
theorem dX6_meet_57 : decode cX6_meet 57 = .ok (.aload_n 0, 1) := by decide +kernel
theorem dX6_meet_58 : decode cX6_meet 58 = .ok (.getfield 10, 3) := by decide +kernel
theorem dX6_meet_61 : decode cX6_meet 61 = .ok (.iload_n 1, 1) := by decide +kernel
theorem dX6_meet_62 : decode cX6_meet 62 = .ok (.iload_n 2, 1) := by decide +kernel
theorem dX6_meet_63 : decode cX6_meet 63 = .ok (.invokevirtual 136, 3) := by decide +kernel
theorem dX6_meet_66 : decode cX6_meet 66 = .ok (.if_icmp .ge 5, 3) := by decide +kernel
theorem dX6_meet_69 : decode cX6_meet 69 = .ok (.iconst (-1), 1) := by decide +kernel
theorem dX6_meet_70 : decode cX6_meet 70 = .ok (.ireturn, 1) := by decide +kernel
theorem dX6_meet_71 : decode cX6_meet 71 = .ok (.aload_n 0, 1) := by decide +kernel
theorem dX6_meet_72 : decode cX6_meet 72 = .ok (.getfield 10, 3) := by decide +kernel
theorem dX6_meet_75 : decode cX6_meet 75 = .ok (.iload_n 1, 1) := by decide +kernel
theorem dX6_meet_76 : decode cX6_meet 76 = .ok (.iload_n 2, 1) := by decide +kernel
theorem dX6_meet_77 : decode cX6_meet 77 = .ok (.iload_n 3, 1) := by decide +kernel
theorem dX6_meet_78 : decode cX6_meet 78 = .ok (.invokevirtual 140, 3) := by decide +kernel
theorem dX6_meet_81 : decode cX6_meet 81 = .ok (.aload_n 0, 1) := by decide +kernel
theorem dX6_meet_82 : decode cX6_meet 82 = .ok (.getfield 10, 3) := by decide +kernel
theorem dX6_meet_85 : decode cX6_meet 85 = .ok (.iload_n 2, 1) := by decide +kernel
theorem dX6_meet_86 : decode cX6_meet 86 = .ok (.iload_n 1, 1) := by decide +kernel
theorem dX6_meet_87 : decode cX6_meet 87 = .ok (.iload_n 3, 1) := by decide +kernel
theorem dX6_meet_88 : decode cX6_meet 88 = .ok (.invokevirtual 140, 3) := by decide +kernel
theorem dX6_meet_91 : decode cX6_meet 91 = .ok (.iload_n 3, 1) := by decide +kernel
theorem dX6_meet_92 : decode cX6_meet 92 = .ok (.ireturn, 1) := by decide +kernel
set_option maxRecDepth 20000 in
theorem ggX6_remembers_X6_areUnlikeFriends : GoodIn wsX6_remembers wsX6_areUnlikeFriends := goodIn_r _ [5, 6, 7, 4, 8] (by decide +kernel) (by decide +kernel)
set_option maxRecDepth 20000 in
theorem gX6_remembers_X6_areUnlikeFriends : GoodIn wsX6_remembers (va_wsS RX6 125 yX6_areUnlikeFriends wsX6_areUnlikeFriends) := goodIn_app (goodIn_of _ (by decide +kernel)) ggX6_remembers_X6_areUnlikeFriends
set_option maxRecDepth 20000 in
theorem ggX6_remembers_X4_memory : GoodIn wsX6_remembers wsX4_memory := goodIn_r _ [13, 14, 15, 16, 12, 17, 26, 27, 28, 29, 30, 31, 32] (by decide +kernel) (by decide +kernel)
set_option maxRecDepth 20000 in
theorem gX6_remembers_X4_memory : GoodIn wsX6_remembers (wsV RX6 136 RX4 yX4_memory wsX4_memory) := goodIn_app (goodIn_of _ (by decide +kernel)) ggX6_remembers_X4_memory
theorem dX6_remembers_0 : decode cX6_remembers 0 = .ok (.iload_n 1, 1) := by decide +kernel
theorem dX6_remembers_1 : decode cX6_remembers 1 = .ok (.iload_n 2, 1) := by decide +kernel
theorem dX6_remembers_2 : decode cX6_remembers 2 = .ok (.invokestatic 125, 3) := by decide +kernel
theorem dX6_remembers_5 : decode cX6_remembers 5 = .ok (.ifCond .ne 5, 3) := by decide +kernel
theorem dX6_remembers_8 : decode cX6_remembers 8 = .ok (.iconst (-1), 1) := by decide +kernel
theorem dX6_remembers_9 : decode cX6_remembers 9 = .ok (.ireturn, 1) := by decide +kernel
theorem dX6_remembers_10 : decode cX6_remembers 10 = .ok (.aload_n 0, 1) := by decide +kernel
theorem dX6_remembers_11 : decode cX6_remembers 11 = .ok (.getfield 10, 3) := by decide +kernel
theorem dX6_remembers_14 : decode cX6_remembers 14 = .ok (.iload_n 1, 1) := by decide +kernel
theorem dX6_remembers_15 : decode cX6_remembers 15 = .ok (.iload_n 2, 1) := by decide +kernel
theorem dX6_remembers_16 : decode cX6_remembers 16 = .ok (.invokevirtual 136, 3) := by decide +kernel
theorem dX6_remembers_19 : decode cX6_remembers 19 = .ok (.ireturn, 1) := by decide +kernel
set_option maxRecDepth 20000 in
theorem ggX6_fall_X6_areUnlikeFriends : GoodIn wsX6_fall wsX6_areUnlikeFriends := goodIn_r _ [6, 7, 8, 5, 9] (by decide +kernel) (by decide +kernel)
set_option maxRecDepth 20000 in
theorem gX6_fall_X6_areUnlikeFriends : GoodIn wsX6_fall (va_wsS RX6 125 yX6_areUnlikeFriends wsX6_areUnlikeFriends) := goodIn_app (goodIn_of _ (by decide +kernel)) ggX6_fall_X6_areUnlikeFriends
set_option maxRecDepth 20000 in
theorem ggX6_fall_X6_isWay : GoodIn wsX6_fall wsX6_isWay := goodIn_r _ [12] (by decide +kernel) (by decide +kernel)
set_option maxRecDepth 20000 in
theorem gX6_fall_X6_isWay : GoodIn wsX6_fall (va_wsS RX6 144 yX6_isWay wsX6_isWay) := goodIn_app (goodIn_of _ (by decide +kernel)) ggX6_fall_X6_isWay
set_option maxRecDepth 20000 in
theorem ggX6_fall_X4_mendsOn : GoodIn wsX6_fall wsX4_mendsOn := goodIn_r _ [17, 18, 98, 99, 100, 101, 102, 103, 104] (by decide +kernel) (by decide +kernel)
set_option maxRecDepth 20000 in
theorem gX6_fall_X4_mendsOn : GoodIn wsX6_fall (wsV RX6 129 RX4 yX4_mendsOn wsX4_mendsOn) := goodIn_app (goodIn_of _ (by decide +kernel)) ggX6_fall_X4_mendsOn
set_option maxRecDepth 20000 in
theorem ggX6_fall_X0_seat : GoodIn wsX6_fall wsX0_seat := goodIn_r _ [23, 24, 25, 26, 27, 28, 29, 30, 31, 32, 16, 33, 34, 35, 36, 37, 38, 39, 40, 41, 42, 43, 44, 45, 46, 47, 105, 106, 107, 108, 109, 110, 111, 112, 113, 114, 115, 116, 98, 99, 100, 101, 102, 103, 104] (by decide +kernel) (by decide +kernel)
set_option maxRecDepth 20000 in
theorem gX6_fall_X0_seat : GoodIn wsX6_fall (wsV RX6 147 RX0 yX0_seat wsX0_seat) := goodIn_app (goodIn_of _ (by decide +kernel)) ggX6_fall_X0_seat
set_option maxRecDepth 20000 in
theorem ggX6_fall_X0_search : GoodIn wsX6_fall wsX0_search := goodIn_r _ [51, 52, 27, 53, 25, 24, 54, 28, 55, 56, 57, 16, 58, 59, 60, 61, 62, 22, 63, 64, 5, 65, 66, 67, 68, 69, 29, 70, 71, 72, 73, 74, 75, 26, 76, 77, 78, 79, 80, 81, 82, 83, 84, 85, 105, 106, 107, 108, 109, 110, 111, 112, 113, 114, 115, 116, 98, 99, 100, 101, 102, 103, 104] (by decide +kernel) (by decide +kernel)
set_option maxRecDepth 20000 in
theorem gX6_fall_X0_search : GoodIn wsX6_fall (wsV RX6 150 RX0 yX0_search wsX0_search) := goodIn_app (goodIn_of _ (by decide +kernel)) ggX6_fall_X0_search
set_option maxRecDepth 20000 in
theorem ggX6_fall_X0_actsFound : GoodIn wsX6_fall wsX0_actsFound := goodIn_r _ [89, 52, 105, 106, 107, 108, 109, 110, 111, 112, 113, 114, 115, 116] (by decide +kernel) (by decide +kernel)
set_option maxRecDepth 20000 in
theorem gX6_fall_X0_actsFound : GoodIn wsX6_fall (wsV RX6 153 RX0 yX0_actsFound wsX0_actsFound) := goodIn_app (goodIn_of _ (by decide +kernel)) ggX6_fall_X0_actsFound
theorem dX6_fall_0 : decode cX6_fall 0 = .ok (.iload_n 1, 1) := by decide +kernel
theorem dX6_fall_1 : decode cX6_fall 1 = .ok (.iload_n 2, 1) := by decide +kernel
theorem dX6_fall_2 : decode cX6_fall 2 = .ok (.invokestatic 125, 3) := by decide +kernel
theorem dX6_fall_5 : decode cX6_fall 5 = .ok (.ifCond .eq 10, 3) := by decide +kernel
theorem dX6_fall_8 : decode cX6_fall 8 = .ok (.iload_n 3, 1) := by decide +kernel
theorem dX6_fall_9 : decode cX6_fall 9 = .ok (.invokestatic 144, 3) := by decide +kernel
theorem dX6_fall_12 : decode cX6_fall 12 = .ok (.ifCond .ne 5, 3) := by decide +kernel
theorem dX6_fall_15 : decode cX6_fall 15 = .ok (.iconst (-1), 1) := by decide +kernel
theorem dX6_fall_16 : decode cX6_fall 16 = .ok (.ireturn, 1) := by decide +kernel
theorem dX6_fall_17 : decode cX6_fall 17 = .ok (.aload_n 0, 1) := by decide +kernel
theorem dX6_fall_18 : decode cX6_fall 18 = .ok (.getfield 47, 3) := by decide +kernel
theorem dX6_fall_21 : decode cX6_fall 21 = .ok (.iload_n 1, 1) := by decide +kernel
theorem dX6_fall_22 : decode cX6_fall 22 = .ok (.iload_n 2, 1) := by decide +kernel
theorem dX6_fall_23 : decode cX6_fall 23 = .ok (.aload_n 0, 1) := by decide +kernel
theorem dX6_fall_24 : decode cX6_fall 24 = .ok (.getfield 10, 3) := by decide +kernel
theorem dX6_fall_27 : decode cX6_fall 27 = .ok (.invokevirtual 129, 3) := by decide +kernel
theorem dX6_fall_30 : decode cX6_fall 30 = .ok (.invokevirtual 147, 3) := by decide +kernel
theorem dX6_fall_33 : decode cX6_fall 33 = .ok (.aload_n 0, 1) := by decide +kernel
theorem dX6_fall_34 : decode cX6_fall 34 = .ok (.getfield 47, 3) := by decide +kernel
theorem dX6_fall_37 : decode cX6_fall 37 = .ok (.iload_n 3, 1) := by decide +kernel
theorem dX6_fall_38 : decode cX6_fall 38 = .ok (.invokevirtual 150, 3) := by decide +kernel
theorem dX6_fall_41 : decode cX6_fall 41 = .ok (.pop, 1) := by decide +kernel
theorem dX6_fall_42 : decode cX6_fall 42 = .ok (.aload_n 0, 1) := by decide +kernel
theorem dX6_fall_43 : decode cX6_fall 43 = .ok (.getfield 47, 3) := by decide +kernel
theorem dX6_fall_46 : decode cX6_fall 46 = .ok (.invokevirtual 153, 3) := by decide +kernel
theorem dX6_fall_49 : decode cX6_fall 49 = .ok (.ireturn, 1) := by decide +kernel
set_option maxRecDepth 20000 in
theorem ggX6_apart_X6_areUnlikeFriends : GoodIn wsX6_apart wsX6_areUnlikeFriends := goodIn_r _ [6, 7, 8, 5, 9] (by decide +kernel) (by decide +kernel)
set_option maxRecDepth 20000 in
theorem gX6_apart_X6_areUnlikeFriends : GoodIn wsX6_apart (va_wsS RX6 125 yX6_areUnlikeFriends wsX6_areUnlikeFriends) := goodIn_app (goodIn_of _ (by decide +kernel)) ggX6_apart_X6_areUnlikeFriends
set_option maxRecDepth 20000 in
theorem ggX6_apart_X4_mendsOn : GoodIn wsX6_apart wsX4_mendsOn := goodIn_r _ [14, 15, 95, 96, 97, 98, 99, 100, 101] (by decide +kernel) (by decide +kernel)
set_option maxRecDepth 20000 in
theorem gX6_apart_X4_mendsOn : GoodIn wsX6_apart (wsV RX6 129 RX4 yX4_mendsOn wsX4_mendsOn) := goodIn_app (goodIn_of _ (by decide +kernel)) ggX6_apart_X4_mendsOn
set_option maxRecDepth 20000 in
theorem ggX6_apart_X0_seat : GoodIn wsX6_apart wsX0_seat := goodIn_r _ [20, 21, 22, 23, 24, 25, 26, 27, 28, 29, 13, 30, 31, 32, 33, 34, 35, 36, 37, 38, 39, 40, 41, 42, 43, 44, 102, 103, 104, 105, 106, 107, 108, 109, 110, 111, 112, 113, 95, 96, 97, 98, 99, 100, 101] (by decide +kernel) (by decide +kernel)
set_option maxRecDepth 20000 in
theorem gX6_apart_X0_seat : GoodIn wsX6_apart (wsV RX6 147 RX0 yX0_seat wsX0_seat) := goodIn_app (goodIn_of _ (by decide +kernel)) ggX6_apart_X0_seat
set_option maxRecDepth 20000 in
theorem ggX6_apart_X0_search : GoodIn wsX6_apart wsX0_search := goodIn_r _ [48, 49, 24, 50, 22, 21, 51, 25, 52, 53, 54, 13, 55, 56, 57, 58, 59, 19, 60, 61, 5, 62, 63, 64, 65, 66, 26, 67, 68, 69, 70, 71, 72, 23, 73, 74, 75, 76, 77, 78, 79, 80, 81, 82, 102, 103, 104, 105, 106, 107, 108, 109, 110, 111, 112, 113, 95, 96, 97, 98, 99, 100, 101] (by decide +kernel) (by decide +kernel)
set_option maxRecDepth 20000 in
theorem gX6_apart_X0_search : GoodIn wsX6_apart (wsV RX6 150 RX0 yX0_search wsX0_search) := goodIn_app (goodIn_of _ (by decide +kernel)) ggX6_apart_X0_search
set_option maxRecDepth 20000 in
theorem ggX6_apart_X0_actsFound : GoodIn wsX6_apart wsX0_actsFound := goodIn_r _ [86, 49, 102, 103, 104, 105, 106, 107, 108, 109, 110, 111, 112, 113] (by decide +kernel) (by decide +kernel)
set_option maxRecDepth 20000 in
theorem gX6_apart_X0_actsFound : GoodIn wsX6_apart (wsV RX6 153 RX0 yX0_actsFound wsX0_actsFound) := goodIn_app (goodIn_of _ (by decide +kernel)) ggX6_apart_X0_actsFound
theorem dX6_apart_0 : decode cX6_apart 0 = .ok (.iload_n 1, 1) := by decide +kernel
theorem dX6_apart_1 : decode cX6_apart 1 = .ok (.iload_n 2, 1) := by decide +kernel
theorem dX6_apart_2 : decode cX6_apart 2 = .ok (.invokestatic 125, 3) := by decide +kernel
theorem dX6_apart_5 : decode cX6_apart 5 = .ok (.ifCond .ne 5, 3) := by decide +kernel
theorem dX6_apart_8 : decode cX6_apart 8 = .ok (.iconst (-1), 1) := by decide +kernel
theorem dX6_apart_9 : decode cX6_apart 9 = .ok (.ireturn, 1) := by decide +kernel
theorem dX6_apart_10 : decode cX6_apart 10 = .ok (.aload_n 0, 1) := by decide +kernel
theorem dX6_apart_11 : decode cX6_apart 11 = .ok (.getfield 47, 3) := by decide +kernel
theorem dX6_apart_14 : decode cX6_apart 14 = .ok (.iload_n 1, 1) := by decide +kernel
theorem dX6_apart_15 : decode cX6_apart 15 = .ok (.iload_n 2, 1) := by decide +kernel
theorem dX6_apart_16 : decode cX6_apart 16 = .ok (.aload_n 0, 1) := by decide +kernel
theorem dX6_apart_17 : decode cX6_apart 17 = .ok (.getfield 10, 3) := by decide +kernel
theorem dX6_apart_20 : decode cX6_apart 20 = .ok (.invokevirtual 129, 3) := by decide +kernel
theorem dX6_apart_23 : decode cX6_apart 23 = .ok (.invokevirtual 147, 3) := by decide +kernel
theorem dX6_apart_26 : decode cX6_apart 26 = .ok (.aload_n 0, 1) := by decide +kernel
theorem dX6_apart_27 : decode cX6_apart 27 = .ok (.getfield 47, 3) := by decide +kernel
theorem dX6_apart_30 : decode cX6_apart 30 = .ok (.iconst (-1), 1) := by decide +kernel
theorem dX6_apart_31 : decode cX6_apart 31 = .ok (.invokevirtual 150, 3) := by decide +kernel
theorem dX6_apart_34 : decode cX6_apart 34 = .ok (.pop, 1) := by decide +kernel
theorem dX6_apart_35 : decode cX6_apart 35 = .ok (.aload_n 0, 1) := by decide +kernel
theorem dX6_apart_36 : decode cX6_apart 36 = .ok (.getfield 47, 3) := by decide +kernel
theorem dX6_apart_39 : decode cX6_apart 39 = .ok (.invokevirtual 153, 3) := by decide +kernel
theorem dX6_apart_42 : decode cX6_apart 42 = .ok (.ireturn, 1) := by decide +kernel
set_option maxRecDepth 20000 in
theorem ggX6_row_X6_areUnlikeFriends : GoodIn wsX6_row wsX6_areUnlikeFriends := goodIn_r _ [6, 7, 8, 5, 9] (by decide +kernel) (by decide +kernel)
set_option maxRecDepth 20000 in
theorem gX6_row_X6_areUnlikeFriends : GoodIn wsX6_row (va_wsS RX6 125 yX6_areUnlikeFriends wsX6_areUnlikeFriends) := goodIn_app (goodIn_of _ (by decide +kernel)) ggX6_row_X6_areUnlikeFriends
set_option maxRecDepth 20000 in
theorem ggX6_row_X6_isWay : GoodIn wsX6_row wsX6_isWay := goodIn_r _ [12] (by decide +kernel) (by decide +kernel)
set_option maxRecDepth 20000 in
theorem gX6_row_X6_isWay : GoodIn wsX6_row (va_wsS RX6 144 yX6_isWay wsX6_isWay) := goodIn_app (goodIn_of _ (by decide +kernel)) ggX6_row_X6_isWay
set_option maxRecDepth 20000 in
theorem ggX6_row_X4_mendsOn : GoodIn wsX6_row wsX4_mendsOn := goodIn_r _ [17, 18, 107, 108, 109, 110, 111, 112, 113] (by decide +kernel) (by decide +kernel)
set_option maxRecDepth 20000 in
theorem gX6_row_X4_mendsOn : GoodIn wsX6_row (wsV RX6 129 RX4 yX4_mendsOn wsX4_mendsOn) := goodIn_app (goodIn_of _ (by decide +kernel)) ggX6_row_X4_mendsOn
set_option maxRecDepth 20000 in
theorem ggX6_row_X0_seat : GoodIn wsX6_row wsX0_seat := goodIn_r _ [23, 24, 25, 26, 27, 28, 29, 30, 31, 32, 16, 33, 34, 35, 36, 37, 38, 39, 40, 41, 42, 43, 44, 45, 46, 47, 114, 115, 116, 117, 118, 119, 120, 121, 122, 123, 124, 125, 107, 108, 109, 110, 111, 112, 113] (by decide +kernel) (by decide +kernel)
set_option maxRecDepth 20000 in
theorem gX6_row_X0_seat : GoodIn wsX6_row (wsV RX6 147 RX0 yX0_seat wsX0_seat) := goodIn_app (goodIn_of _ (by decide +kernel)) ggX6_row_X0_seat
set_option maxRecDepth 20000 in
theorem ggX6_row_X0_search : GoodIn wsX6_row wsX0_search := goodIn_r _ [51, 52, 27, 53, 25, 24, 54, 28, 55, 56, 57, 16, 58, 59, 60, 61, 62, 22, 63, 64, 5, 65, 66, 67, 68, 69, 29, 70, 71, 72, 73, 74, 75, 26, 76, 77, 78, 79, 80, 81, 82, 83, 84, 85, 114, 115, 116, 117, 118, 119, 120, 121, 122, 123, 124, 125, 107, 108, 109, 110, 111, 112, 113] (by decide +kernel) (by decide +kernel)
set_option maxRecDepth 20000 in
theorem gX6_row_X0_search : GoodIn wsX6_row (wsV RX6 150 RX0 yX0_search wsX0_search) := goodIn_app (goodIn_of _ (by decide +kernel)) ggX6_row_X0_search
set_option maxRecDepth 20000 in
theorem ggX6_row_X0_actsFound : GoodIn wsX6_row wsX0_actsFound := goodIn_r _ [89, 52, 114, 115, 116, 117, 118, 119, 120, 121, 122, 123, 124, 125] (by decide +kernel) (by decide +kernel)
set_option maxRecDepth 20000 in
theorem gX6_row_X0_actsFound : GoodIn wsX6_row (wsV RX6 153 RX0 yX0_actsFound wsX0_actsFound) := goodIn_app (goodIn_of _ (by decide +kernel)) ggX6_row_X0_actsFound
set_option maxRecDepth 20000 in
theorem ggX6_row_X0_kindOfAct : GoodIn wsX6_row wsX0_kindOfAct := goodIn_r _ [93, 76, 77, 78, 114, 115, 116, 117, 118, 119, 120, 121, 122, 123, 124, 125] (by decide +kernel) (by decide +kernel)
set_option maxRecDepth 20000 in
theorem gX6_row_X0_kindOfAct : GoodIn wsX6_row (wsV RX6 156 RX0 yX0_kindOfAct wsX0_kindOfAct) := goodIn_app (goodIn_of _ (by decide +kernel)) ggX6_row_X0_kindOfAct
set_option maxRecDepth 20000 in
theorem ggX6_row_X0_detailOfAct : GoodIn wsX6_row wsX0_detailOfAct := goodIn_r _ [97, 77, 78, 98, 91, 92, 22, 93, 76, 114, 115, 116, 117, 118, 119, 120, 121, 122, 123, 124, 125] (by decide +kernel) (by decide +kernel)
set_option maxRecDepth 20000 in
theorem gX6_row_X0_detailOfAct : GoodIn wsX6_row (wsV RX6 159 RX0 yX0_detailOfAct wsX0_detailOfAct) := goodIn_app (goodIn_of _ (by decide +kernel)) ggX6_row_X0_detailOfAct
theorem dX6_row_0 : decode cX6_row 0 = .ok (.iload_n 1, 1) := by decide +kernel
theorem dX6_row_1 : decode cX6_row 1 = .ok (.iload_n 2, 1) := by decide +kernel
theorem dX6_row_2 : decode cX6_row 2 = .ok (.invokestatic 125, 3) := by decide +kernel
theorem dX6_row_5 : decode cX6_row 5 = .ok (.ifCond .eq 15, 3) := by decide +kernel
theorem dX6_row_8 : decode cX6_row 8 = .ok (.iload_n 3, 1) := by decide +kernel
theorem dX6_row_9 : decode cX6_row 9 = .ok (.iconst (-1), 1) := by decide +kernel
theorem dX6_row_10 : decode cX6_row 10 = .ok (.if_icmp .eq 12, 3) := by decide +kernel
theorem dX6_row_13 : decode cX6_row 13 = .ok (.iload_n 3, 1) := by decide +kernel
theorem dX6_row_14 : decode cX6_row 14 = .ok (.invokestatic 144, 3) := by decide +kernel
theorem dX6_row_17 : decode cX6_row 17 = .ok (.ifCond .ne 5, 3) := by decide +kernel
theorem dX6_row_20 : decode cX6_row 20 = .ok (.iconst (-1), 1) := by decide +kernel
theorem dX6_row_21 : decode cX6_row 21 = .ok (.ireturn, 1) := by decide +kernel
theorem dX6_row_22 : decode cX6_row 22 = .ok (.aload_n 0, 1) := by decide +kernel
theorem dX6_row_23 : decode cX6_row 23 = .ok (.getfield 47, 3) := by decide +kernel
theorem dX6_row_26 : decode cX6_row 26 = .ok (.iload_n 1, 1) := by decide +kernel
theorem dX6_row_27 : decode cX6_row 27 = .ok (.iload_n 2, 1) := by decide +kernel
theorem dX6_row_28 : decode cX6_row 28 = .ok (.aload_n 0, 1) := by decide +kernel
theorem dX6_row_29 : decode cX6_row 29 = .ok (.getfield 10, 3) := by decide +kernel
theorem dX6_row_32 : decode cX6_row 32 = .ok (.invokevirtual 129, 3) := by decide +kernel
theorem dX6_row_35 : decode cX6_row 35 = .ok (.invokevirtual 147, 3) := by decide +kernel
theorem dX6_row_38 : decode cX6_row 38 = .ok (.aload_n 0, 1) := by decide +kernel
theorem dX6_row_39 : decode cX6_row 39 = .ok (.getfield 47, 3) := by decide +kernel
theorem dX6_row_42 : decode cX6_row 42 = .ok (.iload_n 3, 1) := by decide +kernel
theorem dX6_row_43 : decode cX6_row 43 = .ok (.invokevirtual 150, 3) := by decide +kernel
theorem dX6_row_46 : decode cX6_row 46 = .ok (.ifCond .eq 20, 3) := by decide +kernel
theorem dX6_row_49 : decode cX6_row 49 = .ok (.iload 4, 2) := by decide +kernel
theorem dX6_row_51 : decode cX6_row 51 = .ok (.ifCond .lt 15, 3) := by decide +kernel
theorem dX6_row_54 : decode cX6_row 54 = .ok (.iload 4, 2) := by decide +kernel
theorem dX6_row_56 : decode cX6_row 56 = .ok (.aload_n 0, 1) := by decide +kernel
theorem dX6_row_57 : decode cX6_row 57 = .ok (.getfield 47, 3) := by decide +kernel
theorem dX6_row_60 : decode cX6_row 60 = .ok (.invokevirtual 153, 3) := by decide +kernel
theorem dX6_row_63 : decode cX6_row 63 = .ok (.if_icmp .lt 5, 3) := by decide +kernel
theorem dX6_row_66 : decode cX6_row 66 = .ok (.iconst (-1), 1) := by decide +kernel
theorem dX6_row_67 : decode cX6_row 67 = .ok (.ireturn, 1) := by decide +kernel
theorem dX6_row_68 : decode cX6_row 68 = .ok (.iload 5, 2) := by decide +kernel
theorem dX6_row_70 : decode cX6_row 70 = .ok (.ifCond .ne 13, 3) := by decide +kernel
theorem dX6_row_73 : decode cX6_row 73 = .ok (.aload_n 0, 1) := by decide +kernel
theorem dX6_row_74 : decode cX6_row 74 = .ok (.getfield 47, 3) := by decide +kernel
theorem dX6_row_77 : decode cX6_row 77 = .ok (.iload 4, 2) := by decide +kernel
theorem dX6_row_79 : decode cX6_row 79 = .ok (.invokevirtual 156, 3) := by decide +kernel
theorem dX6_row_82 : decode cX6_row 82 = .ok (.ireturn, 1) := by decide +kernel
theorem dX6_row_83 : decode cX6_row 83 = .ok (.iload 5, 2) := by decide +kernel
theorem dX6_row_85 : decode cX6_row 85 = .ok (.iconst 1, 1) := by decide +kernel
theorem dX6_row_86 : decode cX6_row 86 = .ok (.if_icmp .ne 15, 3) := by decide +kernel
theorem dX6_row_89 : decode cX6_row 89 = .ok (.aload_n 0, 1) := by decide +kernel
theorem dX6_row_90 : decode cX6_row 90 = .ok (.getfield 47, 3) := by decide +kernel
theorem dX6_row_93 : decode cX6_row 93 = .ok (.iload 4, 2) := by decide +kernel
theorem dX6_row_95 : decode cX6_row 95 = .ok (.invokevirtual 159, 3) := by decide +kernel
theorem dX6_row_98 : decode cX6_row 98 = .ok (.goto 4, 3) := by decide +kernel
theorem dX6_row_101 : decode cX6_row 101 = .ok (.iconst (-1), 1) := by decide +kernel
theorem dX6_row_102 : decode cX6_row 102 = .ok (.ireturn, 1) := by decide +kernel
set_option maxRecDepth 20000 in
theorem ggX6_safe_X6_areUnlikeFriends : GoodIn wsX6_safe wsX6_areUnlikeFriends := goodIn_r _ [6, 7, 8, 5, 9] (by decide +kernel) (by decide +kernel)
set_option maxRecDepth 20000 in
theorem gX6_safe_X6_areUnlikeFriends : GoodIn wsX6_safe (va_wsS RX6 125 yX6_areUnlikeFriends wsX6_areUnlikeFriends) := goodIn_app (goodIn_of _ (by decide +kernel)) ggX6_safe_X6_areUnlikeFriends
set_option maxRecDepth 20000 in
theorem ggX6_safe_X4_mendsOn : GoodIn wsX6_safe wsX4_mendsOn := goodIn_r _ [14, 15, 95, 96, 97, 98, 99, 100, 101] (by decide +kernel) (by decide +kernel)
set_option maxRecDepth 20000 in
theorem gX6_safe_X4_mendsOn : GoodIn wsX6_safe (wsV RX6 129 RX4 yX4_mendsOn wsX4_mendsOn) := goodIn_app (goodIn_of _ (by decide +kernel)) ggX6_safe_X4_mendsOn
set_option maxRecDepth 20000 in
theorem ggX6_safe_X0_seat : GoodIn wsX6_safe wsX0_seat := goodIn_r _ [20, 21, 22, 23, 24, 25, 26, 27, 28, 29, 13, 30, 31, 32, 33, 34, 35, 36, 37, 38, 39, 40, 41, 42, 43, 44, 102, 103, 104, 105, 106, 107, 108, 109, 110, 111, 112, 113, 95, 96, 97, 98, 99, 100, 101] (by decide +kernel) (by decide +kernel)
set_option maxRecDepth 20000 in
theorem gX6_safe_X0_seat : GoodIn wsX6_safe (wsV RX6 147 RX0 yX0_seat wsX0_seat) := goodIn_app (goodIn_of _ (by decide +kernel)) ggX6_safe_X0_seat
set_option maxRecDepth 20000 in
theorem ggX6_safe_X0_isSafe : GoodIn wsX6_safe wsX0_isSafe := goodIn_r _ [48, 24, 25, 49, 5, 50, 51, 52, 53, 19, 54, 55, 56, 22, 21, 57, 58, 59, 60, 13, 61, 62, 63, 64, 65, 66, 67, 68, 69, 70, 26, 71, 72, 73, 74, 75, 76, 23, 77, 78, 79, 80, 81, 82, 83, 84, 85, 86, 102, 103, 104, 105, 106, 107, 108, 109, 110, 111, 112, 113, 95, 96, 97, 98, 99, 100, 101] (by decide +kernel) (by decide +kernel)
set_option maxRecDepth 20000 in
theorem gX6_safe_X0_isSafe : GoodIn wsX6_safe (wsV RX6 162 RX0 yX0_isSafe wsX0_isSafe) := goodIn_app (goodIn_of _ (by decide +kernel)) ggX6_safe_X0_isSafe
theorem dX6_safe_0 : decode cX6_safe 0 = .ok (.iload_n 1, 1) := by decide +kernel
theorem dX6_safe_1 : decode cX6_safe 1 = .ok (.iload_n 2, 1) := by decide +kernel
theorem dX6_safe_2 : decode cX6_safe 2 = .ok (.invokestatic 125, 3) := by decide +kernel
theorem dX6_safe_5 : decode cX6_safe 5 = .ok (.ifCond .ne 5, 3) := by decide +kernel
theorem dX6_safe_8 : decode cX6_safe 8 = .ok (.iconst (-1), 1) := by decide +kernel
theorem dX6_safe_9 : decode cX6_safe 9 = .ok (.ireturn, 1) := by decide +kernel
theorem dX6_safe_10 : decode cX6_safe 10 = .ok (.aload_n 0, 1) := by decide +kernel
theorem dX6_safe_11 : decode cX6_safe 11 = .ok (.getfield 47, 3) := by decide +kernel
theorem dX6_safe_14 : decode cX6_safe 14 = .ok (.iload_n 1, 1) := by decide +kernel
theorem dX6_safe_15 : decode cX6_safe 15 = .ok (.iload_n 2, 1) := by decide +kernel
theorem dX6_safe_16 : decode cX6_safe 16 = .ok (.aload_n 0, 1) := by decide +kernel
theorem dX6_safe_17 : decode cX6_safe 17 = .ok (.getfield 10, 3) := by decide +kernel
theorem dX6_safe_20 : decode cX6_safe 20 = .ok (.invokevirtual 129, 3) := by decide +kernel
theorem dX6_safe_23 : decode cX6_safe 23 = .ok (.invokevirtual 147, 3) := by decide +kernel
theorem dX6_safe_26 : decode cX6_safe 26 = .ok (.aload_n 0, 1) := by decide +kernel
theorem dX6_safe_27 : decode cX6_safe 27 = .ok (.getfield 47, 3) := by decide +kernel
theorem dX6_safe_30 : decode cX6_safe 30 = .ok (.invokevirtual 162, 3) := by decide +kernel
theorem dX6_safe_33 : decode cX6_safe 33 = .ok (.ifCond .eq 7, 3) := by decide +kernel
theorem dX6_safe_36 : decode cX6_safe 36 = .ok (.iconst 1, 1) := by decide +kernel
theorem dX6_safe_37 : decode cX6_safe 37 = .ok (.goto 4, 3) := by decide +kernel
theorem dX6_safe_40 : decode cX6_safe 40 = .ok (.iconst 0, 1) := by decide +kernel
theorem dX6_safe_41 : decode cX6_safe 41 = .ok (.ireturn, 1) := by decide +kernel
set_option maxRecDepth 20000 in
theorem ggX6_lowest_X6_areUnlikeFriends : GoodIn wsX6_lowest wsX6_areUnlikeFriends := goodIn_r _ [6, 7, 8, 5, 9] (by decide +kernel) (by decide +kernel)
set_option maxRecDepth 20000 in
theorem gX6_lowest_X6_areUnlikeFriends : GoodIn wsX6_lowest (va_wsS RX6 125 yX6_areUnlikeFriends wsX6_areUnlikeFriends) := goodIn_app (goodIn_of _ (by decide +kernel)) ggX6_lowest_X6_areUnlikeFriends
set_option maxRecDepth 20000 in
theorem ggX6_lowest_X4_mendsOn : GoodIn wsX6_lowest wsX4_mendsOn := goodIn_r _ [14, 15, 95, 96, 97, 98, 99, 100, 101] (by decide +kernel) (by decide +kernel)
set_option maxRecDepth 20000 in
theorem gX6_lowest_X4_mendsOn : GoodIn wsX6_lowest (wsV RX6 129 RX4 yX4_mendsOn wsX4_mendsOn) := goodIn_app (goodIn_of _ (by decide +kernel)) ggX6_lowest_X4_mendsOn
set_option maxRecDepth 20000 in
theorem ggX6_lowest_X0_seat : GoodIn wsX6_lowest wsX0_seat := goodIn_r _ [20, 21, 22, 23, 24, 25, 26, 27, 28, 29, 13, 30, 31, 32, 33, 34, 35, 36, 37, 38, 39, 40, 41, 42, 43, 44, 102, 103, 104, 105, 106, 107, 108, 109, 110, 111, 112, 113, 95, 96, 97, 98, 99, 100, 101] (by decide +kernel) (by decide +kernel)
set_option maxRecDepth 20000 in
theorem gX6_lowest_X0_seat : GoodIn wsX6_lowest (wsV RX6 147 RX0 yX0_seat wsX0_seat) := goodIn_app (goodIn_of _ (by decide +kernel)) ggX6_lowest_X0_seat
set_option maxRecDepth 20000 in
theorem ggX6_lowest_X0_lowestFall : GoodIn wsX6_lowest wsX0_lowestFall := goodIn_r _ [48, 24, 25, 49, 5, 50, 51, 52, 53, 19, 54, 55, 56, 22, 21, 57, 58, 59, 60, 13, 61, 62, 63, 64, 65, 66, 67, 68, 69, 70, 26, 71, 72, 73, 74, 75, 76, 23, 77, 78, 79, 80, 81, 82, 83, 84, 85, 86, 102, 103, 104, 105, 106, 107, 108, 109, 110, 111, 112, 113, 95, 96, 97, 98, 99, 100, 101] (by decide +kernel) (by decide +kernel)
set_option maxRecDepth 20000 in
theorem gX6_lowest_X0_lowestFall : GoodIn wsX6_lowest (wsV RX6 165 RX0 yX0_lowestFall wsX0_lowestFall) := goodIn_app (goodIn_of _ (by decide +kernel)) ggX6_lowest_X0_lowestFall
theorem dX6_lowest_0 : decode cX6_lowest 0 = .ok (.iload_n 1, 1) := by decide +kernel
theorem dX6_lowest_1 : decode cX6_lowest 1 = .ok (.iload_n 2, 1) := by decide +kernel
theorem dX6_lowest_2 : decode cX6_lowest 2 = .ok (.invokestatic 125, 3) := by decide +kernel
theorem dX6_lowest_5 : decode cX6_lowest 5 = .ok (.ifCond .ne 5, 3) := by decide +kernel
theorem dX6_lowest_8 : decode cX6_lowest 8 = .ok (.iconst (-1), 1) := by decide +kernel
theorem dX6_lowest_9 : decode cX6_lowest 9 = .ok (.ireturn, 1) := by decide +kernel
theorem dX6_lowest_10 : decode cX6_lowest 10 = .ok (.aload_n 0, 1) := by decide +kernel
theorem dX6_lowest_11 : decode cX6_lowest 11 = .ok (.getfield 47, 3) := by decide +kernel
theorem dX6_lowest_14 : decode cX6_lowest 14 = .ok (.iload_n 1, 1) := by decide +kernel
theorem dX6_lowest_15 : decode cX6_lowest 15 = .ok (.iload_n 2, 1) := by decide +kernel
theorem dX6_lowest_16 : decode cX6_lowest 16 = .ok (.aload_n 0, 1) := by decide +kernel
theorem dX6_lowest_17 : decode cX6_lowest 17 = .ok (.getfield 10, 3) := by decide +kernel
theorem dX6_lowest_20 : decode cX6_lowest 20 = .ok (.invokevirtual 129, 3) := by decide +kernel
theorem dX6_lowest_23 : decode cX6_lowest 23 = .ok (.invokevirtual 147, 3) := by decide +kernel
theorem dX6_lowest_26 : decode cX6_lowest 26 = .ok (.aload_n 0, 1) := by decide +kernel
theorem dX6_lowest_27 : decode cX6_lowest 27 = .ok (.getfield 47, 3) := by decide +kernel
theorem dX6_lowest_30 : decode cX6_lowest 30 = .ok (.invokevirtual 165, 3) := by decide +kernel
theorem dX6_lowest_33 : decode cX6_lowest 33 = .ok (.ireturn, 1) := by decide +kernel
set_option maxRecDepth 20000 in
theorem ggX6_room_X6_isFriendSet : GoodIn wsX6_room wsX6_isFriendSet := goodIn_r _ [6] (by decide +kernel) (by decide +kernel)
set_option maxRecDepth 20000 in
theorem gX6_room_X6_isFriendSet : GoodIn wsX6_room (va_wsS RX6 168 yX6_isFriendSet wsX6_isFriendSet) := goodIn_app (goodIn_of _ (by decide +kernel)) ggX6_room_X6_isFriendSet
set_option maxRecDepth 20000 in
theorem ggX6_room_X6_isPairOfRoom : GoodIn wsX6_room wsX6_isPairOfRoom := goodIn_r _ [9, 10, 11, 5, 12] (by decide +kernel) (by decide +kernel)
set_option maxRecDepth 20000 in
theorem gX6_room_X6_isPairOfRoom : GoodIn wsX6_room (va_wsS RX6 171 yX6_isPairOfRoom wsX6_isPairOfRoom) := goodIn_app (goodIn_of _ (by decide +kernel)) ggX6_room_X6_isPairOfRoom
set_option maxRecDepth 20000 in
theorem ggX6_room_X4_mendsOn : GoodIn wsX6_room wsX4_mendsOn := goodIn_r _ [17, 18, 96, 97, 98, 99, 100, 101, 102] (by decide +kernel) (by decide +kernel)
set_option maxRecDepth 20000 in
theorem gX6_room_X4_mendsOn : GoodIn wsX6_room (wsV RX6 129 RX4 yX4_mendsOn wsX4_mendsOn) := goodIn_app (goodIn_of _ (by decide +kernel)) ggX6_room_X4_mendsOn
set_option maxRecDepth 20000 in
theorem ggX6_room_X0_seat : GoodIn wsX6_room wsX0_seat := goodIn_r _ [23, 24, 25, 26, 27, 28, 29, 30, 31, 32, 16, 33, 34, 35, 36, 37, 38, 39, 40, 41, 42, 43, 44, 45, 46, 47, 103, 104, 105, 106, 107, 108, 109, 110, 111, 112, 113, 114, 96, 97, 98, 99, 100, 101, 102] (by decide +kernel) (by decide +kernel)
set_option maxRecDepth 20000 in
theorem gX6_room_X0_seat : GoodIn wsX6_room (wsV RX6 147 RX0 yX0_seat wsX0_seat) := goodIn_app (goodIn_of _ (by decide +kernel)) ggX6_room_X0_seat
set_option maxRecDepth 20000 in
theorem ggX6_room_X0_isSafe : GoodIn wsX6_room wsX0_isSafe := goodIn_r _ [51, 27, 28, 52, 5, 53, 54, 55, 56, 22, 57, 58, 59, 25, 24, 60, 61, 62, 63, 16, 64, 65, 66, 67, 68, 69, 70, 71, 72, 73, 29, 11, 12, 74, 75, 76, 77, 26, 78, 79, 80, 81, 82, 83, 84, 85, 86, 87, 103, 104, 105, 106, 107, 108, 109, 110, 111, 112, 113, 114, 96, 97, 98, 99, 100, 101, 102] (by decide +kernel) (by decide +kernel)
set_option maxRecDepth 20000 in
theorem gX6_room_X0_isSafe : GoodIn wsX6_room (wsV RX6 162 RX0 yX0_isSafe wsX0_isSafe) := goodIn_app (goodIn_of _ (by decide +kernel)) ggX6_room_X0_isSafe
theorem dX6_room_0 : decode cX6_room 0 = .ok (.iload_n 1, 1) := by decide +kernel
theorem dX6_room_1 : decode cX6_room 1 = .ok (.invokestatic 168, 3) := by decide +kernel
theorem dX6_room_4 : decode cX6_room 4 = .ok (.ifCond .eq 8, 3) := by decide +kernel
theorem dX6_room_7 : decode cX6_room 7 = .ok (.iload_n 2, 1) := by decide +kernel
theorem dX6_room_8 : decode cX6_room 8 = .ok (.iconst (-1), 1) := by decide +kernel
theorem dX6_room_9 : decode cX6_room 9 = .ok (.if_icmp .ge 5, 3) := by decide +kernel
theorem dX6_room_12 : decode cX6_room 12 = .ok (.iconst (-1), 1) := by decide +kernel
theorem dX6_room_13 : decode cX6_room 13 = .ok (.ireturn, 1) := by decide +kernel
theorem dX6_room_14 : decode cX6_room 14 = .ok (.iconst 0, 1) := by decide +kernel
theorem dX6_room_15 : decode cX6_room 15 = .ok (.istore_n 3, 1) := by decide +kernel
theorem dX6_room_16 : decode cX6_room 16 = .ok (.iconst 0, 1) := by decide +kernel
theorem dX6_room_17 : decode cX6_room 17 = .ok (.istore 4, 2) := by decide +kernel
theorem dX6_room_19 : decode cX6_room 19 = .ok (.iload 4, 2) := by decide +kernel
theorem dX6_room_21 : decode cX6_room 21 = .ok (.bipush 25, 2) := by decide +kernel
theorem dX6_room_23 : decode cX6_room 23 = .ok (.if_icmp .ge 67, 3) := by decide +kernel
theorem dX6_room_26 : decode cX6_room 26 = .ok (.iload_n 1, 1) := by decide +kernel
theorem dX6_room_27 : decode cX6_room 27 = .ok (.iload 4, 2) := by decide +kernel
theorem dX6_room_29 : decode cX6_room 29 = .ok (.invokestatic 171, 3) := by decide +kernel
theorem dX6_room_32 : decode cX6_room 32 = .ok (.ifCond .ne 6, 3) := by decide +kernel
theorem dX6_room_35 : decode cX6_room 35 = .ok (.goto 49, 3) := by decide +kernel
theorem dX6_room_38 : decode cX6_room 38 = .ok (.aload_n 0, 1) := by decide +kernel
theorem dX6_room_39 : decode cX6_room 39 = .ok (.getfield 47, 3) := by decide +kernel
theorem dX6_room_42 : decode cX6_room 42 = .ok (.iload 4, 2) := by decide +kernel
theorem dX6_room_44 : decode cX6_room 44 = .ok (.iconst 5, 1) := by decide +kernel
theorem dX6_room_45 : decode cX6_room 45 = .ok (.idiv, 1) := by decide +kernel
theorem dX6_room_46 : decode cX6_room 46 = .ok (.iload 4, 2) := by decide +kernel
theorem dX6_room_48 : decode cX6_room 48 = .ok (.iconst 5, 1) := by decide +kernel
theorem dX6_room_49 : decode cX6_room 49 = .ok (.irem, 1) := by decide +kernel
theorem dX6_room_50 : decode cX6_room 50 = .ok (.aload_n 0, 1) := by decide +kernel
theorem dX6_room_51 : decode cX6_room 51 = .ok (.getfield 10, 3) := by decide +kernel
theorem dX6_room_54 : decode cX6_room 54 = .ok (.invokevirtual 129, 3) := by decide +kernel
theorem dX6_room_57 : decode cX6_room 57 = .ok (.invokevirtual 147, 3) := by decide +kernel
theorem dX6_room_60 : decode cX6_room 60 = .ok (.aload_n 0, 1) := by decide +kernel
theorem dX6_room_61 : decode cX6_room 61 = .ok (.getfield 47, 3) := by decide +kernel
theorem dX6_room_64 : decode cX6_room 64 = .ok (.invokevirtual 162, 3) := by decide +kernel
theorem dX6_room_67 : decode cX6_room 67 = .ok (.ifCond .eq 6, 3) := by decide +kernel
theorem dX6_room_70 : decode cX6_room 70 = .ok (.goto 14, 3) := by decide +kernel
theorem dX6_room_73 : decode cX6_room 73 = .ok (.iload_n 3, 1) := by decide +kernel
theorem dX6_room_74 : decode cX6_room 74 = .ok (.iload_n 2, 1) := by decide +kernel
theorem dX6_room_75 : decode cX6_room 75 = .ok (.if_icmp .ne 6, 3) := by decide +kernel
theorem dX6_room_78 : decode cX6_room 78 = .ok (.iload 4, 2) := by decide +kernel
theorem dX6_room_80 : decode cX6_room 80 = .ok (.ireturn, 1) := by decide +kernel
theorem dX6_room_81 : decode cX6_room 81 = .ok (.iinc 3 1, 3) := by decide +kernel
theorem dX6_room_84 : decode cX6_room 84 = .ok (.iinc 4 1, 3) := by decide +kernel
theorem dX6_room_87 : decode cX6_room 87 = .ok (.goto (-68), 3) := by decide +kernel
theorem dX6_room_90 : decode cX6_room 90 = .ok (.iload_n 2, 1) := by decide +kernel
theorem dX6_room_91 : decode cX6_room 91 = .ok (.iconst (-1), 1) := by decide +kernel
theorem dX6_room_92 : decode cX6_room 92 = .ok (.if_icmp .ne 7, 3) := by decide +kernel
theorem dX6_room_95 : decode cX6_room 95 = .ok (.iload_n 3, 1) := by decide +kernel
theorem dX6_room_96 : decode cX6_room 96 = .ok (.goto 4, 3) := by decide +kernel
theorem dX6_room_99 : decode cX6_room 99 = .ok (.iconst (-1), 1) := by decide +kernel
theorem dX6_room_100 : decode cX6_room 100 = .ok (.ireturn, 1) := by decide +kernel
set_option maxRecDepth 20000 in
theorem ggX6_must_X6_areUnlikeFriends : GoodIn wsX6_must wsX6_areUnlikeFriends := goodIn_r _ [5, 6, 7, 4, 8] (by decide +kernel) (by decide +kernel)
set_option maxRecDepth 20000 in
theorem gX6_must_X6_areUnlikeFriends : GoodIn wsX6_must (va_wsS RX6 125 yX6_areUnlikeFriends wsX6_areUnlikeFriends) := goodIn_app (goodIn_of _ (by decide +kernel)) ggX6_must_X6_areUnlikeFriends
set_option maxRecDepth 20000 in
theorem ggX6_must_X4_mustTalk : GoodIn wsX6_must wsX4_mustTalk := goodIn_r _ [13, 14, 15, 16, 17, 18, 19, 20, 21, 22, 23, 12, 24, 25, 4, 26, 39, 40, 41, 42, 43, 44, 45] (by decide +kernel) (by decide +kernel)
set_option maxRecDepth 20000 in
theorem gX6_must_X4_mustTalk : GoodIn wsX6_must (wsV RX6 174 RX4 yX4_mustTalk wsX4_mustTalk) := goodIn_app (goodIn_of _ (by decide +kernel)) ggX6_must_X4_mustTalk
set_option maxRecDepth 20000 in
theorem ggX6_must_X4_demandTalk : GoodIn wsX6_must wsX4_demandTalk := goodIn_r _ [30, 15, 16, 17, 18, 19, 20, 21, 14, 22, 23, 12, 24, 39, 40, 41, 42, 43, 44, 45] (by decide +kernel) (by decide +kernel)
set_option maxRecDepth 20000 in
theorem gX6_must_X4_demandTalk : GoodIn wsX6_must (wsV RX6 177 RX4 yX4_demandTalk wsX4_demandTalk) := goodIn_app (goodIn_of _ (by decide +kernel)) ggX6_must_X4_demandTalk
theorem dX6_must_0 : decode cX6_must 0 = .ok (.iload_n 1, 1) := by decide +kernel
theorem dX6_must_1 : decode cX6_must 1 = .ok (.iload_n 2, 1) := by decide +kernel
theorem dX6_must_2 : decode cX6_must 2 = .ok (.invokestatic 125, 3) := by decide +kernel
theorem dX6_must_5 : decode cX6_must 5 = .ok (.ifCond .eq 16, 3) := by decide +kernel
theorem dX6_must_8 : decode cX6_must 8 = .ok (.aload_n 0, 1) := by decide +kernel
theorem dX6_must_9 : decode cX6_must 9 = .ok (.getfield 10, 3) := by decide +kernel
theorem dX6_must_12 : decode cX6_must 12 = .ok (.iload_n 1, 1) := by decide +kernel
theorem dX6_must_13 : decode cX6_must 13 = .ok (.iload_n 2, 1) := by decide +kernel
theorem dX6_must_14 : decode cX6_must 14 = .ok (.invokevirtual 174, 3) := by decide +kernel
theorem dX6_must_17 : decode cX6_must 17 = .ok (.iload_n 3, 1) := by decide +kernel
theorem dX6_must_18 : decode cX6_must 18 = .ok (.if_icmp .ne 5, 3) := by decide +kernel
theorem dX6_must_21 : decode cX6_must 21 = .ok (.iconst 0, 1) := by decide +kernel
theorem dX6_must_22 : decode cX6_must 22 = .ok (.ireturn, 1) := by decide +kernel
theorem dX6_must_23 : decode cX6_must 23 = .ok (.aload_n 0, 1) := by decide +kernel
theorem dX6_must_24 : decode cX6_must 24 = .ok (.getfield 10, 3) := by decide +kernel
theorem dX6_must_27 : decode cX6_must 27 = .ok (.iload_n 1, 1) := by decide +kernel
theorem dX6_must_28 : decode cX6_must 28 = .ok (.iload_n 2, 1) := by decide +kernel
theorem dX6_must_29 : decode cX6_must 29 = .ok (.iload_n 3, 1) := by decide +kernel
theorem dX6_must_30 : decode cX6_must 30 = .ok (.invokevirtual 177, 3) := by decide +kernel
theorem dX6_must_33 : decode cX6_must 33 = .ok (.iconst 1, 1) := by decide +kernel
theorem dX6_must_34 : decode cX6_must 34 = .ok (.ireturn, 1) := by decide +kernel
set_option maxRecDepth 20000 in
theorem ggX6_cheapest_X6_isFriendSet : GoodIn wsX6_cheapest wsX6_isFriendSet := goodIn_r _ [5] (by decide +kernel) (by decide +kernel)
set_option maxRecDepth 20000 in
theorem gX6_cheapest_X6_isFriendSet : GoodIn wsX6_cheapest (va_wsS RX6 168 yX6_isFriendSet wsX6_isFriendSet) := goodIn_app (goodIn_of _ (by decide +kernel)) ggX6_cheapest_X6_isFriendSet
set_option maxRecDepth 20000 in
theorem ggX6_cheapest_X1_searchFor : GoodIn wsX6_cheapest wsX1_searchFor := goodIn_r _ [10, 11, 12, 13, 14, 15, 16, 17, 18, 19, 20, 21, 22, 9, 23, 24, 25, 26, 27, 28, 4, 29, 30, 31, 32, 33, 34, 35, 36, 37, 38, 39, 40, 41, 42, 43, 44, 45, 46, 47, 48, 49, 50, 51, 52, 53, 54, 55, 56, 57, 58, 59, 60, 61, 62, 63, 64, 65, 66, 67, 68, 69, 70, 71, 72, 73, 74, 75, 76, 77, 78, 79, 80, 81, 82, 83, 84, 85, 86, 87, 88, 89, 90, 91, 92, 93, 94, 95, 96, 97, 98, 99, 100, 101, 102, 103, 104, 105, 106, 107, 108, 109, 110, 111, 112, 113, 114, 115, 116, 117, 118, 119, 120, 121, 122, 123, 124, 125, 126, 127, 128, 129, 130, 131, 132, 133, 151, 152, 153, 154, 155, 156, 157, 158, 159, 160, 161, 162, 163, 164, 165, 166, 167, 168, 169, 170, 171, 172, 173] (by decide +kernel) (by decide +kernel)
set_option maxRecDepth 20000 in
theorem gX6_cheapest_X1_searchFor : GoodIn wsX6_cheapest (wsV RX6 181 RX1 yX1_searchFor wsX1_searchFor) := goodIn_app (goodIn_of _ (by decide +kernel)) ggX6_cheapest_X1_searchFor
set_option maxRecDepth 20000 in
theorem ggX6_cheapest_X1_priceFound : GoodIn wsX6_cheapest wsX1_priceFound := goodIn_r _ [137, 13, 151, 152, 153, 154] (by decide +kernel) (by decide +kernel)
set_option maxRecDepth 20000 in
theorem gX6_cheapest_X1_priceFound : GoodIn wsX6_cheapest (wsV RX6 184 RX1 yX1_priceFound wsX1_priceFound) := goodIn_app (goodIn_of _ (by decide +kernel)) ggX6_cheapest_X1_priceFound
set_option maxRecDepth 20000 in
theorem ggX6_cheapest_X1_setFound : GoodIn wsX6_cheapest wsX1_setFound := goodIn_r _ [141, 11, 151, 152, 153, 154] (by decide +kernel) (by decide +kernel)
set_option maxRecDepth 20000 in
theorem gX6_cheapest_X1_setFound : GoodIn wsX6_cheapest (wsV RX6 187 RX1 yX1_setFound wsX1_setFound) := goodIn_app (goodIn_of _ (by decide +kernel)) ggX6_cheapest_X1_setFound
set_option maxRecDepth 20000 in
theorem ggX6_cheapest_J6_bitCount_0f7a4 : GoodIn wsX6_cheapest wsJ6_bitCount_0f7a4 := goodIn_r _ [38, 39, 40, 41] (by decide +kernel) (by decide +kernel)
set_option maxRecDepth 20000 in
theorem gX6_cheapest_J6_bitCount_0f7a4 : GoodIn wsX6_cheapest (va_wsS RX6 190 yJ6_bitCount_0f7a4 wsJ6_bitCount_0f7a4) := goodIn_app (goodIn_of _ (by decide +kernel)) ggX6_cheapest_J6_bitCount_0f7a4
theorem dX6_cheapest_0 : decode cX6_cheapest 0 = .ok (.iload_n 1, 1) := by decide +kernel
theorem dX6_cheapest_1 : decode cX6_cheapest 1 = .ok (.invokestatic 168, 3) := by decide +kernel
theorem dX6_cheapest_4 : decode cX6_cheapest 4 = .ok (.ifCond .eq 23, 3) := by decide +kernel
theorem dX6_cheapest_7 : decode cX6_cheapest 7 = .ok (.iload_n 2, 1) := by decide +kernel
theorem dX6_cheapest_8 : decode cX6_cheapest 8 = .ok (.ifCond .lt 19, 3) := by decide +kernel
theorem dX6_cheapest_11 : decode cX6_cheapest 11 = .ok (.iload_n 2, 1) := by decide +kernel
theorem dX6_cheapest_12 : decode cX6_cheapest 12 = .ok (.iconst 2, 1) := by decide +kernel
theorem dX6_cheapest_13 : decode cX6_cheapest 13 = .ok (.if_icmp .gt 14, 3) := by decide +kernel
theorem dX6_cheapest_16 : decode cX6_cheapest 16 = .ok (.aload_n 0, 1) := by decide +kernel
theorem dX6_cheapest_17 : decode cX6_cheapest 17 = .ok (.getfield 56, 3) := by decide +kernel
theorem dX6_cheapest_20 : decode cX6_cheapest 20 = .ok (.iload_n 1, 1) := by decide +kernel
theorem dX6_cheapest_21 : decode cX6_cheapest 21 = .ok (.invokevirtual 181, 3) := by decide +kernel
theorem dX6_cheapest_24 : decode cX6_cheapest 24 = .ok (.ifCond .ne 5, 3) := by decide +kernel
theorem dX6_cheapest_27 : decode cX6_cheapest 27 = .ok (.iconst (-1), 1) := by decide +kernel
theorem dX6_cheapest_28 : decode cX6_cheapest 28 = .ok (.ireturn, 1) := by decide +kernel
theorem dX6_cheapest_29 : decode cX6_cheapest 29 = .ok (.iload_n 2, 1) := by decide +kernel
