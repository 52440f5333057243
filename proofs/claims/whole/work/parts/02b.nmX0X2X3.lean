set_option maxRecDepth 20000 in
theorem ggX0_init_J7_fill_53178 : GoodIn wsX0_init wsJ7_fill_53178 := goodIn_r _ [16] (by decide +kernel) (by decide +kernel)
set_option maxRecDepth 20000 in
theorem gX0_init_J7_fill_53178 : GoodIn wsX0_init (va_wsS RX0 35 yJ7_fill_53178 wsJ7_fill_53178) := goodIn_app (goodIn_of _ (by decide +kernel)) ggX0_init_J7_fill_53178
theorem dX0_init_0 : decode cX0_init 0 = .ok (.aload_n 0, 1) := by decide +kernel
theorem dX0_init_1 : decode cX0_init 1 = .ok (.invokespecial 3, 3) := by decide +kernel
theorem dX0_init_4 : decode cX0_init 4 = .ok (.aload_n 0, 1) := by decide +kernel
theorem dX0_init_5 : decode cX0_init 5 = .ok (.bipush 6, 2) := by decide +kernel
theorem dX0_init_7 : decode cX0_init 7 = .ok (.newarray .int, 2) := by decide +kernel
theorem dX0_init_9 : decode cX0_init 9 = .ok (.putfield 9, 3) := by decide +kernel
theorem dX0_init_12 : decode cX0_init 12 = .ok (.aload_n 0, 1) := by decide +kernel
theorem dX0_init_13 : decode cX0_init 13 = .ok (.bipush 6, 2) := by decide +kernel
theorem dX0_init_15 : decode cX0_init 15 = .ok (.newarray .int, 2) := by decide +kernel
theorem dX0_init_17 : decode cX0_init 17 = .ok (.putfield 15, 3) := by decide +kernel
theorem dX0_init_20 : decode cX0_init 20 = .ok (.aload_n 0, 1) := by decide +kernel
theorem dX0_init_21 : decode cX0_init 21 = .ok (.bipush 40, 2) := by decide +kernel
theorem dX0_init_23 : decode cX0_init 23 = .ok (.newarray .int, 2) := by decide +kernel
theorem dX0_init_25 : decode cX0_init 25 = .ok (.putfield 18, 3) := by decide +kernel
theorem dX0_init_28 : decode cX0_init 28 = .ok (.aload_n 0, 1) := by decide +kernel
theorem dX0_init_29 : decode cX0_init 29 = .ok (.iconst 5, 1) := by decide +kernel
theorem dX0_init_30 : decode cX0_init 30 = .ok (.newarray .int, 2) := by decide +kernel
theorem dX0_init_32 : decode cX0_init 32 = .ok (.putfield 21, 3) := by decide +kernel
theorem dX0_init_35 : decode cX0_init 35 = .ok (.aload_n 0, 1) := by decide +kernel
theorem dX0_init_36 : decode cX0_init 36 = .ok (.iconst 5, 1) := by decide +kernel
theorem dX0_init_37 : decode cX0_init 37 = .ok (.newarray .int, 2) := by decide +kernel
theorem dX0_init_39 : decode cX0_init 39 = .ok (.putfield 24, 3) := by decide +kernel
theorem dX0_init_42 : decode cX0_init 42 = .ok (.aload_n 0, 1) := by decide +kernel
theorem dX0_init_43 : decode cX0_init 43 = .ok (.bipush 32, 2) := by decide +kernel
theorem dX0_init_45 : decode cX0_init 45 = .ok (.newarray .long, 2) := by decide +kernel
theorem dX0_init_47 : decode cX0_init 47 = .ok (.putfield 27, 3) := by decide +kernel
theorem dX0_init_50 : decode cX0_init 50 = .ok (.aload_n 0, 1) := by decide +kernel
theorem dX0_init_51 : decode cX0_init 51 = .ok (.aload_n 1, 1) := by decide +kernel
theorem dX0_init_52 : decode cX0_init 52 = .ok (.putfield 31, 3) := by decide +kernel
theorem dX0_init_55 : decode cX0_init 55 = .ok (.aload_n 0, 1) := by decide +kernel
theorem dX0_init_56 : decode cX0_init 56 = .ok (.getfield 15, 3) := by decide +kernel
theorem dX0_init_59 : decode cX0_init 59 = .ok (.bipush 99, 2) := by decide +kernel
theorem dX0_init_61 : decode cX0_init 61 = .ok (.invokestatic 35, 3) := by decide +kernel
theorem dX0_init_64 : decode cX0_init 64 = .ok (.return_, 1) := by decide +kernel
theorem dX0_firstYear_0 : decode cX0_firstYear 0 = .ok (.aload_n 0, 1) := by decide +kernel
theorem dX0_firstYear_1 : decode cX0_firstYear 1 = .ok (.getfield 9, 3) := by decide +kernel
theorem dX0_firstYear_4 : decode cX0_firstYear 4 = .ok (.aload_n 0, 1) := by decide +kernel
theorem dX0_firstYear_5 : decode cX0_firstYear 5 = .ok (.getfield 31, 3) := by decide +kernel
theorem dX0_firstYear_8 : decode cX0_firstYear 8 = .ok (.getfield 41, 3) := by decide +kernel
theorem dX0_firstYear_11 : decode cX0_firstYear 11 = .ok (.iload_n 1, 1) := by decide +kernel
theorem dX0_firstYear_12 : decode cX0_firstYear 12 = .ok (.iaload, 1) := by decide +kernel
theorem dX0_firstYear_13 : decode cX0_firstYear 13 = .ok (.iaload, 1) := by decide +kernel
theorem dX0_firstYear_14 : decode cX0_firstYear 14 = .ok (.ireturn, 1) := by decide +kernel
theorem dX0_lastYear_0 : decode cX0_lastYear 0 = .ok (.aload_n 0, 1) := by decide +kernel
theorem dX0_lastYear_1 : decode cX0_lastYear 1 = .ok (.getfield 15, 3) := by decide +kernel
theorem dX0_lastYear_4 : decode cX0_lastYear 4 = .ok (.aload_n 0, 1) := by decide +kernel
theorem dX0_lastYear_5 : decode cX0_lastYear 5 = .ok (.getfield 31, 3) := by decide +kernel
theorem dX0_lastYear_8 : decode cX0_lastYear 8 = .ok (.getfield 41, 3) := by decide +kernel
theorem dX0_lastYear_11 : decode cX0_lastYear 11 = .ok (.iload_n 1, 1) := by decide +kernel
theorem dX0_lastYear_12 : decode cX0_lastYear 12 = .ok (.iaload, 1) := by decide +kernel
theorem dX0_lastYear_13 : decode cX0_lastYear 13 = .ok (.iaload, 1) := by decide +kernel
theorem dX0_lastYear_14 : decode cX0_lastYear 14 = .ok (.ireturn, 1) := by decide +kernel
set_option maxRecDepth 20000 in
theorem ggX0_firstWrong_X0_firstYear : GoodIn wsX0_firstWrong wsX0_firstYear := goodIn_r _ [12, 13, 1, 14, 32, 33, 34, 35, 36, 37, 38, 39, 40, 41, 42, 43, 44, 45, 46, 47, 48] (by decide +kernel) (by decide +kernel)
set_option maxRecDepth 20000 in
theorem gX0_firstWrong_X0_firstYear : GoodIn wsX0_firstWrong (wsV RX0 50 RX0 yX0_firstYear wsX0_firstYear) := goodIn_app (goodIn_of _ (by decide +kernel)) ggX0_firstWrong_X0_firstYear
set_option maxRecDepth 20000 in
theorem ggX0_firstWrong_X1_liesOver : GoodIn wsX0_firstWrong wsX1_liesOver := goodIn_r _ [19, 20, 21, 22, 23, 24, 25, 26, 39, 40, 41, 42, 43, 44, 45, 46, 47, 48, 49, 50, 51, 52, 53, 54, 55] (by decide +kernel) (by decide +kernel)
set_option maxRecDepth 20000 in
theorem gX0_firstWrong_X1_liesOver : GoodIn wsX0_firstWrong (wsV RX0 54 RX1 yX1_liesOver wsX1_liesOver) := goodIn_app (goodIn_of _ (by decide +kernel)) ggX0_firstWrong_X1_liesOver
set_option maxRecDepth 20000 in
theorem ggX0_firstWrong_X0_lastYear : GoodIn wsX0_firstWrong wsX0_lastYear := goodIn_r _ [30, 31, 1, 14, 32, 33, 34, 35, 36, 37, 38, 39, 40, 41, 42, 43, 44, 45, 46, 47, 48] (by decide +kernel) (by decide +kernel)
set_option maxRecDepth 20000 in
theorem gX0_firstWrong_X0_lastYear : GoodIn wsX0_firstWrong (wsV RX0 64 RX0 yX0_lastYear wsX0_lastYear) := goodIn_app (goodIn_of _ (by decide +kernel)) ggX0_firstWrong_X0_lastYear
theorem dX0_firstWrong_0 : decode cX0_firstWrong 0 = .ok (.iconst 0, 1) := by decide +kernel
theorem dX0_firstWrong_1 : decode cX0_firstWrong 1 = .ok (.istore_n 1, 1) := by decide +kernel
theorem dX0_firstWrong_2 : decode cX0_firstWrong 2 = .ok (.iload_n 1, 1) := by decide +kernel
theorem dX0_firstWrong_3 : decode cX0_firstWrong 3 = .ok (.aload_n 0, 1) := by decide +kernel
theorem dX0_firstWrong_4 : decode cX0_firstWrong 4 = .ok (.getfield 31, 3) := by decide +kernel
theorem dX0_firstWrong_7 : decode cX0_firstWrong 7 = .ok (.getfield 46, 3) := by decide +kernel
theorem dX0_firstWrong_10 : decode cX0_firstWrong 10 = .ok (.if_icmp .ge 69, 3) := by decide +kernel
theorem dX0_firstWrong_13 : decode cX0_firstWrong 13 = .ok (.aload_n 0, 1) := by decide +kernel
theorem dX0_firstWrong_14 : decode cX0_firstWrong 14 = .ok (.iload_n 1, 1) := by decide +kernel
theorem dX0_firstWrong_15 : decode cX0_firstWrong 15 = .ok (.invokevirtual 50, 3) := by decide +kernel
theorem dX0_firstWrong_18 : decode cX0_firstWrong 18 = .ok (.istore_n 2, 1) := by decide +kernel
theorem dX0_firstWrong_19 : decode cX0_firstWrong 19 = .ok (.iconst 0, 1) := by decide +kernel
theorem dX0_firstWrong_20 : decode cX0_firstWrong 20 = .ok (.istore_n 3, 1) := by decide +kernel
theorem dX0_firstWrong_21 : decode cX0_firstWrong 21 = .ok (.iload_n 3, 1) := by decide +kernel
theorem dX0_firstWrong_22 : decode cX0_firstWrong 22 = .ok (.iload_n 1, 1) := by decide +kernel
theorem dX0_firstWrong_23 : decode cX0_firstWrong 23 = .ok (.if_icmp .ge 32, 3) := by decide +kernel
theorem dX0_firstWrong_26 : decode cX0_firstWrong 26 = .ok (.aload_n 0, 1) := by decide +kernel
theorem dX0_firstWrong_27 : decode cX0_firstWrong 27 = .ok (.getfield 31, 3) := by decide +kernel
theorem dX0_firstWrong_30 : decode cX0_firstWrong 30 = .ok (.iload_n 1, 1) := by decide +kernel
theorem dX0_firstWrong_31 : decode cX0_firstWrong 31 = .ok (.iload_n 3, 1) := by decide +kernel
theorem dX0_firstWrong_32 : decode cX0_firstWrong 32 = .ok (.invokevirtual 54, 3) := by decide +kernel
theorem dX0_firstWrong_35 : decode cX0_firstWrong 35 = .ok (.ifCond .eq 14, 3) := by decide +kernel
theorem dX0_firstWrong_38 : decode cX0_firstWrong 38 = .ok (.iload_n 2, 1) := by decide +kernel
theorem dX0_firstWrong_39 : decode cX0_firstWrong 39 = .ok (.aload_n 0, 1) := by decide +kernel
theorem dX0_firstWrong_40 : decode cX0_firstWrong 40 = .ok (.getfield 18, 3) := by decide +kernel
theorem dX0_firstWrong_43 : decode cX0_firstWrong 43 = .ok (.iload_n 3, 1) := by decide +kernel
theorem dX0_firstWrong_44 : decode cX0_firstWrong 44 = .ok (.iaload, 1) := by decide +kernel
theorem dX0_firstWrong_45 : decode cX0_firstWrong 45 = .ok (.invokestatic 58, 3) := by decide +kernel
theorem dX0_firstWrong_48 : decode cX0_firstWrong 48 = .ok (.istore_n 2, 1) := by decide +kernel
theorem dX0_firstWrong_49 : decode cX0_firstWrong 49 = .ok (.iinc 3 1, 3) := by decide +kernel
theorem dX0_firstWrong_52 : decode cX0_firstWrong 52 = .ok (.goto (-31), 3) := by decide +kernel
theorem dX0_firstWrong_55 : decode cX0_firstWrong 55 = .ok (.iload_n 2, 1) := by decide +kernel
theorem dX0_firstWrong_56 : decode cX0_firstWrong 56 = .ok (.aload_n 0, 1) := by decide +kernel
theorem dX0_firstWrong_57 : decode cX0_firstWrong 57 = .ok (.iload_n 1, 1) := by decide +kernel
theorem dX0_firstWrong_58 : decode cX0_firstWrong 58 = .ok (.invokevirtual 64, 3) := by decide +kernel
theorem dX0_firstWrong_61 : decode cX0_firstWrong 61 = .ok (.if_icmp .le 5, 3) := by decide +kernel
theorem dX0_firstWrong_64 : decode cX0_firstWrong 64 = .ok (.iload_n 1, 1) := by decide +kernel
theorem dX0_firstWrong_65 : decode cX0_firstWrong 65 = .ok (.ireturn, 1) := by decide +kernel
theorem dX0_firstWrong_66 : decode cX0_firstWrong 66 = .ok (.aload_n 0, 1) := by decide +kernel
theorem dX0_firstWrong_67 : decode cX0_firstWrong 67 = .ok (.getfield 18, 3) := by decide +kernel
theorem dX0_firstWrong_70 : decode cX0_firstWrong 70 = .ok (.iload_n 1, 1) := by decide +kernel
theorem dX0_firstWrong_71 : decode cX0_firstWrong 71 = .ok (.iload_n 2, 1) := by decide +kernel
theorem dX0_firstWrong_72 : decode cX0_firstWrong 72 = .ok (.iastore, 1) := by decide +kernel
theorem dX0_firstWrong_73 : decode cX0_firstWrong 73 = .ok (.iinc 1 1, 3) := by decide +kernel
theorem dX0_firstWrong_76 : decode cX0_firstWrong 76 = .ok (.goto (-74), 3) := by decide +kernel
theorem dX0_firstWrong_79 : decode cX0_firstWrong 79 = .ok (.bipush (-9), 2) := by decide +kernel
theorem dX0_firstWrong_81 : decode cX0_firstWrong 81 = .ok (.ireturn, 1) := by decide +kernel
set_option maxRecDepth 20000 in
theorem ggX0_latest_X0_lastYear : GoodIn wsX0_latest wsX0_lastYear := goodIn_r _ [12, 13, 1, 14, 27, 28, 29, 30, 31, 32, 33, 34, 35, 36, 37, 38, 39, 40, 41, 42, 43] (by decide +kernel) (by decide +kernel)
set_option maxRecDepth 20000 in
theorem gX0_latest_X0_lastYear : GoodIn wsX0_latest (wsV RX0 64 RX0 yX0_lastYear wsX0_lastYear) := goodIn_app (goodIn_of _ (by decide +kernel)) ggX0_latest_X0_lastYear
set_option maxRecDepth 20000 in
theorem ggX0_latest_X1_liesOver : GoodIn wsX0_latest wsX1_liesOver := goodIn_r _ [19, 20, 21, 22, 23, 24, 25, 26, 34, 35, 36, 37, 38, 39, 40, 41, 42, 43, 44, 45, 46, 47, 48, 49, 50] (by decide +kernel) (by decide +kernel)
set_option maxRecDepth 20000 in
theorem gX0_latest_X1_liesOver : GoodIn wsX0_latest (wsV RX0 54 RX1 yX1_liesOver wsX1_liesOver) := goodIn_app (goodIn_of _ (by decide +kernel)) ggX0_latest_X1_liesOver
theorem dX0_latest_0 : decode cX0_latest 0 = .ok (.aload_n 0, 1) := by decide +kernel
theorem dX0_latest_1 : decode cX0_latest 1 = .ok (.getfield 31, 3) := by decide +kernel
theorem dX0_latest_4 : decode cX0_latest 4 = .ok (.getfield 46, 3) := by decide +kernel
theorem dX0_latest_7 : decode cX0_latest 7 = .ok (.iconst 1, 1) := by decide +kernel
theorem dX0_latest_8 : decode cX0_latest 8 = .ok (.isub, 1) := by decide +kernel
theorem dX0_latest_9 : decode cX0_latest 9 = .ok (.istore_n 2, 1) := by decide +kernel
theorem dX0_latest_10 : decode cX0_latest 10 = .ok (.iload_n 2, 1) := by decide +kernel
theorem dX0_latest_11 : decode cX0_latest 11 = .ok (.iload_n 1, 1) := by decide +kernel
theorem dX0_latest_12 : decode cX0_latest 12 = .ok (.if_icmp .lt 70, 3) := by decide +kernel
theorem dX0_latest_15 : decode cX0_latest 15 = .ok (.aload_n 0, 1) := by decide +kernel
theorem dX0_latest_16 : decode cX0_latest 16 = .ok (.iload_n 2, 1) := by decide +kernel
theorem dX0_latest_17 : decode cX0_latest 17 = .ok (.invokevirtual 64, 3) := by decide +kernel
theorem dX0_latest_20 : decode cX0_latest 20 = .ok (.istore_n 3, 1) := by decide +kernel
theorem dX0_latest_21 : decode cX0_latest 21 = .ok (.iload_n 2, 1) := by decide +kernel
theorem dX0_latest_22 : decode cX0_latest 22 = .ok (.iconst 1, 1) := by decide +kernel
theorem dX0_latest_23 : decode cX0_latest 23 = .ok (.iadd, 1) := by decide +kernel
theorem dX0_latest_24 : decode cX0_latest 24 = .ok (.istore 4, 2) := by decide +kernel
theorem dX0_latest_26 : decode cX0_latest 26 = .ok (.iload 4, 2) := by decide +kernel
theorem dX0_latest_28 : decode cX0_latest 28 = .ok (.aload_n 0, 1) := by decide +kernel
theorem dX0_latest_29 : decode cX0_latest 29 = .ok (.getfield 31, 3) := by decide +kernel
theorem dX0_latest_32 : decode cX0_latest 32 = .ok (.getfield 46, 3) := by decide +kernel
theorem dX0_latest_35 : decode cX0_latest 35 = .ok (.if_icmp .ge 34, 3) := by decide +kernel
theorem dX0_latest_38 : decode cX0_latest 38 = .ok (.aload_n 0, 1) := by decide +kernel
theorem dX0_latest_39 : decode cX0_latest 39 = .ok (.getfield 31, 3) := by decide +kernel
theorem dX0_latest_42 : decode cX0_latest 42 = .ok (.iload 4, 2) := by decide +kernel
theorem dX0_latest_44 : decode cX0_latest 44 = .ok (.iload_n 2, 1) := by decide +kernel
theorem dX0_latest_45 : decode cX0_latest 45 = .ok (.invokevirtual 54, 3) := by decide +kernel
theorem dX0_latest_48 : decode cX0_latest 48 = .ok (.ifCond .eq 15, 3) := by decide +kernel
theorem dX0_latest_51 : decode cX0_latest 51 = .ok (.iload_n 3, 1) := by decide +kernel
theorem dX0_latest_52 : decode cX0_latest 52 = .ok (.aload_n 0, 1) := by decide +kernel
theorem dX0_latest_53 : decode cX0_latest 53 = .ok (.getfield 18, 3) := by decide +kernel
theorem dX0_latest_56 : decode cX0_latest 56 = .ok (.iload 4, 2) := by decide +kernel
theorem dX0_latest_58 : decode cX0_latest 58 = .ok (.iaload, 1) := by decide +kernel
theorem dX0_latest_59 : decode cX0_latest 59 = .ok (.invokestatic 67, 3) := by decide +kernel
theorem dX0_latest_62 : decode cX0_latest 62 = .ok (.istore_n 3, 1) := by decide +kernel
theorem dX0_latest_63 : decode cX0_latest 63 = .ok (.iinc 4 1, 3) := by decide +kernel
theorem dX0_latest_66 : decode cX0_latest 66 = .ok (.goto (-40), 3) := by decide +kernel
theorem dX0_latest_69 : decode cX0_latest 69 = .ok (.aload_n 0, 1) := by decide +kernel
theorem dX0_latest_70 : decode cX0_latest 70 = .ok (.getfield 18, 3) := by decide +kernel
theorem dX0_latest_73 : decode cX0_latest 73 = .ok (.iload_n 2, 1) := by decide +kernel
theorem dX0_latest_74 : decode cX0_latest 74 = .ok (.iload_n 3, 1) := by decide +kernel
theorem dX0_latest_75 : decode cX0_latest 75 = .ok (.iastore, 1) := by decide +kernel
theorem dX0_latest_76 : decode cX0_latest 76 = .ok (.iinc 2 (-1), 3) := by decide +kernel
theorem dX0_latest_79 : decode cX0_latest 79 = .ok (.goto (-69), 3) := by decide +kernel
theorem dX0_latest_82 : decode cX0_latest 82 = .ok (.aload_n 0, 1) := by decide +kernel
theorem dX0_latest_83 : decode cX0_latest 83 = .ok (.getfield 18, 3) := by decide +kernel
theorem dX0_latest_86 : decode cX0_latest 86 = .ok (.iload_n 1, 1) := by decide +kernel
theorem dX0_latest_87 : decode cX0_latest 87 = .ok (.iaload, 1) := by decide +kernel
theorem dX0_latest_88 : decode cX0_latest 88 = .ok (.ireturn, 1) := by decide +kernel
set_option maxRecDepth 20000 in
theorem ggX0_countWays_X1_inColumn : GoodIn wsX0_countWays wsX1_inColumn := goodIn_r _ [10, 11, 12, 13, 14, 15, 16, 69, 70, 71, 72, 73, 74, 75, 76, 77, 78, 79, 80, 81, 82, 83, 84, 85] (by decide +kernel) (by decide +kernel)
set_option maxRecDepth 20000 in
theorem gX0_countWays_X1_inColumn : GoodIn wsX0_countWays (wsV RX0 70 RX1 yX1_inColumn wsX1_inColumn) := goodIn_app (goodIn_of _ (by decide +kernel)) ggX0_countWays_X1_inColumn
set_option maxRecDepth 20000 in
theorem ggX0_countWays_J13_bitCount_95d88 : GoodIn wsX0_countWays wsJ13_bitCount_95d88 := goodIn_r _ [20, 21, 22, 23] (by decide +kernel) (by decide +kernel)
set_option maxRecDepth 20000 in
theorem gX0_countWays_J13_bitCount_95d88 : GoodIn wsX0_countWays (va_wsS RX0 74 yJ13_bitCount_95d88 wsJ13_bitCount_95d88) := goodIn_app (goodIn_of _ (by decide +kernel)) ggX0_countWays_J13_bitCount_95d88
set_option maxRecDepth 20000 in
theorem ggX0_countWays_X7_isIn : GoodIn wsX0_countWays wsX7_isIn := goodIn_r _ [25] (by decide +kernel) (by decide +kernel)
set_option maxRecDepth 20000 in
theorem gX0_countWays_X7_isIn_n82 : GoodIn wsX0_countWays (wsX7_isIn) := ggX0_countWays_X7_isIn
set_option maxRecDepth 20000 in
theorem ggX0_countWays_X0_lastYear : GoodIn wsX0_countWays wsX0_lastYear := goodIn_r _ [30, 31, 1, 32, 62, 63, 64, 65, 66, 67, 68, 69, 70, 71, 72, 73, 74, 75, 76, 77, 78] (by decide +kernel) (by decide +kernel)
set_option maxRecDepth 20000 in
theorem gX0_countWays_X0_lastYear : GoodIn wsX0_countWays (wsV RX0 64 RX0 yX0_lastYear wsX0_lastYear) := goodIn_app (goodIn_of _ (by decide +kernel)) ggX0_countWays_X0_lastYear
set_option maxRecDepth 20000 in
theorem ggX0_countWays_X0_firstYear : GoodIn wsX0_countWays wsX0_firstYear := goodIn_r _ [36, 37, 1, 32, 62, 63, 64, 65, 66, 67, 68, 69, 70, 71, 72, 73, 74, 75, 76, 77, 78] (by decide +kernel) (by decide +kernel)
set_option maxRecDepth 20000 in
theorem gX0_countWays_X0_firstYear : GoodIn wsX0_countWays (wsV RX0 50 RX0 yX0_firstYear wsX0_firstYear) := goodIn_app (goodIn_of _ (by decide +kernel)) ggX0_countWays_X0_firstYear
set_option maxRecDepth 20000 in
theorem ggX0_countWays_X0_findBeneath : GoodIn wsX0_countWays wsX0_findBeneath := goodIn_r _ [41, 42, 1, 4, 43, 44, 45, 9, 46, 11, 12, 13, 47, 14, 15, 16, 62, 63, 64, 65, 66, 67, 68, 69, 70, 71, 72, 73, 74, 75, 76, 77, 78, 79, 80, 81, 82, 83, 84, 85] (by decide +kernel) (by decide +kernel)
set_option maxRecDepth 20000 in
theorem gX0_countWays_X0_findBeneath : GoodIn wsX0_countWays (wsV RX0 86 RX0 yX0_findBeneath wsX0_findBeneath) := goodIn_app (goodIn_of _ (by decide +kernel)) ggX0_countWays_X0_findBeneath
set_option maxRecDepth 20000 in
theorem ggX0_countWays_J7_fill_d0a16 : GoodIn wsX0_countWays wsJ7_fill_d0a16 := goodIn_r _ [51] (by decide +kernel) (by decide +kernel)
set_option maxRecDepth 20000 in
theorem gX0_countWays_J7_fill_d0a16 : GoodIn wsX0_countWays (va_wsS RX0 90 yJ7_fill_d0a16 wsJ7_fill_d0a16) := goodIn_app (goodIn_of _ (by decide +kernel)) ggX0_countWays_J7_fill_d0a16
set_option maxRecDepth 20000 in
theorem ggX0_countWays_X0_giveYear : GoodIn wsX0_countWays wsX0_giveYear := goodIn_r _ [55, 4, 5, 33, 34, 35, 29, 36, 37, 1, 32, 26, 27, 28, 30, 31, 56, 15, 57, 58, 59, 60, 61, 42, 24, 25, 62, 63, 64, 65, 66, 67, 68, 69, 70, 71, 72, 73, 74, 75, 76, 77, 78] (by decide +kernel) (by decide +kernel)
set_option maxRecDepth 20000 in
theorem gX0_countWays_X0_giveYear : GoodIn wsX0_countWays (wsV RX0 93 RX0 yX0_giveYear wsX0_giveYear) := goodIn_app (goodIn_of _ (by decide +kernel)) ggX0_countWays_X0_giveYear
theorem dX0_countWays_0 : decode cX0_countWays 0 = .ok (.aload_n 0, 1) := by decide +kernel
theorem dX0_countWays_1 : decode cX0_countWays 1 = .ok (.getfield 31, 3) := by decide +kernel
theorem dX0_countWays_4 : decode cX0_countWays 4 = .ok (.iload_n 1, 1) := by decide +kernel
theorem dX0_countWays_5 : decode cX0_countWays 5 = .ok (.invokevirtual 70, 3) := by decide +kernel
theorem dX0_countWays_8 : decode cX0_countWays 8 = .ok (.lstore_n 2, 1) := by decide +kernel
theorem dX0_countWays_9 : decode cX0_countWays 9 = .ok (.lload_n 2, 1) := by decide +kernel
theorem dX0_countWays_10 : decode cX0_countWays 10 = .ok (.invokestatic 74, 3) := by decide +kernel
theorem dX0_countWays_13 : decode cX0_countWays 13 = .ok (.iconst 5, 1) := by decide +kernel
theorem dX0_countWays_14 : decode cX0_countWays 14 = .ok (.if_icmp .le 7, 3) := by decide +kernel
theorem dX0_countWays_17 : decode cX0_countWays 17 = .ok (.ldc2_w 80, 3) := by decide +kernel
theorem dX0_countWays_20 : decode cX0_countWays 20 = .ok (.lreturn, 1) := by decide +kernel
theorem dX0_countWays_21 : decode cX0_countWays 21 = .ok (.iconst 0, 1) := by decide +kernel
theorem dX0_countWays_22 : decode cX0_countWays 22 = .ok (.istore 4, 2) := by decide +kernel
theorem dX0_countWays_24 : decode cX0_countWays 24 = .ok (.iconst 0, 1) := by decide +kernel
theorem dX0_countWays_25 : decode cX0_countWays 25 = .ok (.istore 5, 2) := by decide +kernel
theorem dX0_countWays_27 : decode cX0_countWays 27 = .ok (.iload 5, 2) := by decide +kernel
theorem dX0_countWays_29 : decode cX0_countWays 29 = .ok (.aload_n 0, 1) := by decide +kernel
theorem dX0_countWays_30 : decode cX0_countWays 30 = .ok (.getfield 31, 3) := by decide +kernel
theorem dX0_countWays_33 : decode cX0_countWays 33 = .ok (.getfield 46, 3) := by decide +kernel
theorem dX0_countWays_36 : decode cX0_countWays 36 = .ok (.if_icmp .ge 58, 3) := by decide +kernel
theorem dX0_countWays_39 : decode cX0_countWays 39 = .ok (.iload 4, 2) := by decide +kernel
theorem dX0_countWays_41 : decode cX0_countWays 41 = .ok (.iconst 5, 1) := by decide +kernel
theorem dX0_countWays_42 : decode cX0_countWays 42 = .ok (.if_icmp .ge 52, 3) := by decide +kernel
theorem dX0_countWays_45 : decode cX0_countWays 45 = .ok (.lload_n 2, 1) := by decide +kernel
theorem dX0_countWays_46 : decode cX0_countWays 46 = .ok (.iload 5, 2) := by decide +kernel
theorem dX0_countWays_48 : decode cX0_countWays 48 = .ok (.invokestatic 82, 3) := by decide +kernel
theorem dX0_countWays_51 : decode cX0_countWays 51 = .ok (.ifCond .eq 37, 3) := by decide +kernel
theorem dX0_countWays_54 : decode cX0_countWays 54 = .ok (.aload_n 0, 1) := by decide +kernel
theorem dX0_countWays_55 : decode cX0_countWays 55 = .ok (.iload 5, 2) := by decide +kernel
theorem dX0_countWays_57 : decode cX0_countWays 57 = .ok (.invokevirtual 64, 3) := by decide +kernel
theorem dX0_countWays_60 : decode cX0_countWays 60 = .ok (.aload_n 0, 1) := by decide +kernel
theorem dX0_countWays_61 : decode cX0_countWays 61 = .ok (.iload 5, 2) := by decide +kernel
theorem dX0_countWays_63 : decode cX0_countWays 63 = .ok (.invokevirtual 50, 3) := by decide +kernel
theorem dX0_countWays_66 : decode cX0_countWays 66 = .ok (.isub, 1) := by decide +kernel
theorem dX0_countWays_67 : decode cX0_countWays 67 = .ok (.bipush 10, 2) := by decide +kernel
theorem dX0_countWays_69 : decode cX0_countWays 69 = .ok (.if_icmp .lt 7, 3) := by decide +kernel
theorem dX0_countWays_72 : decode cX0_countWays 72 = .ok (.ldc2_w 80, 3) := by decide +kernel
theorem dX0_countWays_75 : decode cX0_countWays 75 = .ok (.lreturn, 1) := by decide +kernel
theorem dX0_countWays_76 : decode cX0_countWays 76 = .ok (.aload_n 0, 1) := by decide +kernel
theorem dX0_countWays_77 : decode cX0_countWays 77 = .ok (.getfield 21, 3) := by decide +kernel
theorem dX0_countWays_80 : decode cX0_countWays 80 = .ok (.iload 4, 2) := by decide +kernel
theorem dX0_countWays_82 : decode cX0_countWays 82 = .ok (.iinc 4 1, 3) := by decide +kernel
theorem dX0_countWays_85 : decode cX0_countWays 85 = .ok (.iload 5, 2) := by decide +kernel
theorem dX0_countWays_87 : decode cX0_countWays 87 = .ok (.iastore, 1) := by decide +kernel
theorem dX0_countWays_88 : decode cX0_countWays 88 = .ok (.iinc 5 1, 3) := by decide +kernel
theorem dX0_countWays_91 : decode cX0_countWays 91 = .ok (.goto (-64), 3) := by decide +kernel
theorem dX0_countWays_94 : decode cX0_countWays 94 = .ok (.aload_n 0, 1) := by decide +kernel
theorem dX0_countWays_95 : decode cX0_countWays 95 = .ok (.iload 4, 2) := by decide +kernel
theorem dX0_countWays_97 : decode cX0_countWays 97 = .ok (.invokevirtual 86, 3) := by decide +kernel
theorem dX0_countWays_100 : decode cX0_countWays 100 = .ok (.aload_n 0, 1) := by decide +kernel
theorem dX0_countWays_101 : decode cX0_countWays 101 = .ok (.getfield 27, 3) := by decide +kernel
theorem dX0_countWays_104 : decode cX0_countWays 104 = .ok (.lconst 0, 1) := by decide +kernel
theorem dX0_countWays_105 : decode cX0_countWays 105 = .ok (.invokestatic 90, 3) := by decide +kernel
theorem dX0_countWays_108 : decode cX0_countWays 108 = .ok (.aload_n 0, 1) := by decide +kernel
theorem dX0_countWays_109 : decode cX0_countWays 109 = .ok (.getfield 27, 3) := by decide +kernel
theorem dX0_countWays_112 : decode cX0_countWays 112 = .ok (.iconst 0, 1) := by decide +kernel
theorem dX0_countWays_113 : decode cX0_countWays 113 = .ok (.lconst 1, 1) := by decide +kernel
theorem dX0_countWays_114 : decode cX0_countWays 114 = .ok (.lastore, 1) := by decide +kernel
theorem dX0_countWays_115 : decode cX0_countWays 115 = .ok (.iconst 0, 1) := by decide +kernel
theorem dX0_countWays_116 : decode cX0_countWays 116 = .ok (.istore 5, 2) := by decide +kernel
theorem dX0_countWays_118 : decode cX0_countWays 118 = .ok (.iload 5, 2) := by decide +kernel
theorem dX0_countWays_120 : decode cX0_countWays 120 = .ok (.bipush 99, 2) := by decide +kernel
theorem dX0_countWays_122 : decode cX0_countWays 122 = .ok (.if_icmp .gt 17, 3) := by decide +kernel
theorem dX0_countWays_125 : decode cX0_countWays 125 = .ok (.aload_n 0, 1) := by decide +kernel
theorem dX0_countWays_126 : decode cX0_countWays 126 = .ok (.iload 5, 2) := by decide +kernel
theorem dX0_countWays_128 : decode cX0_countWays 128 = .ok (.iload 4, 2) := by decide +kernel
theorem dX0_countWays_130 : decode cX0_countWays 130 = .ok (.invokevirtual 93, 3) := by decide +kernel
theorem dX0_countWays_133 : decode cX0_countWays 133 = .ok (.iinc 5 1, 3) := by decide +kernel
theorem dX0_countWays_136 : decode cX0_countWays 136 = .ok (.goto (-18), 3) := by decide +kernel
theorem dX0_countWays_139 : decode cX0_countWays 139 = .ok (.aload_n 0, 1) := by decide +kernel
theorem dX0_countWays_140 : decode cX0_countWays 140 = .ok (.getfield 27, 3) := by decide +kernel
theorem dX0_countWays_143 : decode cX0_countWays 143 = .ok (.iconst 1, 1) := by decide +kernel
theorem dX0_countWays_144 : decode cX0_countWays 144 = .ok (.iload 4, 2) := by decide +kernel
theorem dX0_countWays_146 : decode cX0_countWays 146 = .ok (.ishl, 1) := by decide +kernel
theorem dX0_countWays_147 : decode cX0_countWays 147 = .ok (.iconst 1, 1) := by decide +kernel
theorem dX0_countWays_148 : decode cX0_countWays 148 = .ok (.isub, 1) := by decide +kernel
theorem dX0_countWays_149 : decode cX0_countWays 149 = .ok (.laload, 1) := by decide +kernel
theorem dX0_countWays_150 : decode cX0_countWays 150 = .ok (.lreturn, 1) := by decide +kernel
set_option maxRecDepth 20000 in
theorem ggX0_findBeneath_X1_liesOver : GoodIn wsX0_findBeneath wsX1_liesOver := goodIn_r _ [8, 9, 10, 11, 12, 13, 14, 15, 23, 24, 25, 26, 27, 28, 29, 30, 31, 32, 33, 34, 35, 36, 37, 38, 39] (by decide +kernel) (by decide +kernel)
set_option maxRecDepth 20000 in
theorem gX0_findBeneath_X1_liesOver : GoodIn wsX0_findBeneath (wsV RX0 54 RX1 yX1_liesOver wsX1_liesOver) := goodIn_app (goodIn_of _ (by decide +kernel)) ggX0_findBeneath_X1_liesOver
theorem dX0_findBeneath_0 : decode cX0_findBeneath 0 = .ok (.iconst 0, 1) := by decide +kernel
theorem dX0_findBeneath_1 : decode cX0_findBeneath 1 = .ok (.istore_n 2, 1) := by decide +kernel
theorem dX0_findBeneath_2 : decode cX0_findBeneath 2 = .ok (.iload_n 2, 1) := by decide +kernel
theorem dX0_findBeneath_3 : decode cX0_findBeneath 3 = .ok (.iload_n 1, 1) := by decide +kernel
theorem dX0_findBeneath_4 : decode cX0_findBeneath 4 = .ok (.if_icmp .ge 63, 3) := by decide +kernel
theorem dX0_findBeneath_7 : decode cX0_findBeneath 7 = .ok (.aload_n 0, 1) := by decide +kernel
theorem dX0_findBeneath_8 : decode cX0_findBeneath 8 = .ok (.getfield 24, 3) := by decide +kernel
theorem dX0_findBeneath_11 : decode cX0_findBeneath 11 = .ok (.iload_n 2, 1) := by decide +kernel
theorem dX0_findBeneath_12 : decode cX0_findBeneath 12 = .ok (.iconst 0, 1) := by decide +kernel
theorem dX0_findBeneath_13 : decode cX0_findBeneath 13 = .ok (.iastore, 1) := by decide +kernel
theorem dX0_findBeneath_14 : decode cX0_findBeneath 14 = .ok (.iconst 0, 1) := by decide +kernel
theorem dX0_findBeneath_15 : decode cX0_findBeneath 15 = .ok (.istore_n 3, 1) := by decide +kernel
theorem dX0_findBeneath_16 : decode cX0_findBeneath 16 = .ok (.iload_n 3, 1) := by decide +kernel
theorem dX0_findBeneath_17 : decode cX0_findBeneath 17 = .ok (.iload_n 2, 1) := by decide +kernel
theorem dX0_findBeneath_18 : decode cX0_findBeneath 18 = .ok (.if_icmp .ge 43, 3) := by decide +kernel
theorem dX0_findBeneath_21 : decode cX0_findBeneath 21 = .ok (.aload_n 0, 1) := by decide +kernel
theorem dX0_findBeneath_22 : decode cX0_findBeneath 22 = .ok (.getfield 31, 3) := by decide +kernel
theorem dX0_findBeneath_25 : decode cX0_findBeneath 25 = .ok (.aload_n 0, 1) := by decide +kernel
theorem dX0_findBeneath_26 : decode cX0_findBeneath 26 = .ok (.getfield 21, 3) := by decide +kernel
theorem dX0_findBeneath_29 : decode cX0_findBeneath 29 = .ok (.iload_n 2, 1) := by decide +kernel
theorem dX0_findBeneath_30 : decode cX0_findBeneath 30 = .ok (.iaload, 1) := by decide +kernel
theorem dX0_findBeneath_31 : decode cX0_findBeneath 31 = .ok (.aload_n 0, 1) := by decide +kernel
theorem dX0_findBeneath_32 : decode cX0_findBeneath 32 = .ok (.getfield 21, 3) := by decide +kernel
theorem dX0_findBeneath_35 : decode cX0_findBeneath 35 = .ok (.iload_n 3, 1) := by decide +kernel
theorem dX0_findBeneath_36 : decode cX0_findBeneath 36 = .ok (.iaload, 1) := by decide +kernel
theorem dX0_findBeneath_37 : decode cX0_findBeneath 37 = .ok (.invokevirtual 54, 3) := by decide +kernel
theorem dX0_findBeneath_40 : decode cX0_findBeneath 40 = .ok (.ifCond .eq 15, 3) := by decide +kernel
theorem dX0_findBeneath_43 : decode cX0_findBeneath 43 = .ok (.aload_n 0, 1) := by decide +kernel
theorem dX0_findBeneath_44 : decode cX0_findBeneath 44 = .ok (.getfield 24, 3) := by decide +kernel
theorem dX0_findBeneath_47 : decode cX0_findBeneath 47 = .ok (.iload_n 2, 1) := by decide +kernel
theorem dX0_findBeneath_48 : decode cX0_findBeneath 48 = .ok (.dup2, 1) := by decide +kernel
theorem dX0_findBeneath_49 : decode cX0_findBeneath 49 = .ok (.iaload, 1) := by decide +kernel
theorem dX0_findBeneath_50 : decode cX0_findBeneath 50 = .ok (.iconst 1, 1) := by decide +kernel
theorem dX0_findBeneath_51 : decode cX0_findBeneath 51 = .ok (.iload_n 3, 1) := by decide +kernel
theorem dX0_findBeneath_52 : decode cX0_findBeneath 52 = .ok (.ishl, 1) := by decide +kernel
theorem dX0_findBeneath_53 : decode cX0_findBeneath 53 = .ok (.ior, 1) := by decide +kernel
theorem dX0_findBeneath_54 : decode cX0_findBeneath 54 = .ok (.iastore, 1) := by decide +kernel
theorem dX0_findBeneath_55 : decode cX0_findBeneath 55 = .ok (.iinc 3 1, 3) := by decide +kernel
theorem dX0_findBeneath_58 : decode cX0_findBeneath 58 = .ok (.goto (-42), 3) := by decide +kernel
theorem dX0_findBeneath_61 : decode cX0_findBeneath 61 = .ok (.iinc 2 1, 3) := by decide +kernel
theorem dX0_findBeneath_64 : decode cX0_findBeneath 64 = .ok (.goto (-62), 3) := by decide +kernel
theorem dX0_findBeneath_67 : decode cX0_findBeneath 67 = .ok (.return_, 1) := by decide +kernel
set_option maxRecDepth 20000 in
theorem ggX0_giveYear_X0_firstYear : GoodIn wsX0_giveYear wsX0_firstYear := goodIn_r _ [7, 8, 9, 10, 26, 27, 28, 29, 30, 31, 32, 33, 34, 35, 36, 37, 38, 39, 40, 41, 42] (by decide +kernel) (by decide +kernel)
set_option maxRecDepth 20000 in
theorem gX0_giveYear_X0_firstYear : GoodIn wsX0_giveYear (wsV RX0 50 RX0 yX0_firstYear wsX0_firstYear) := goodIn_app (goodIn_of _ (by decide +kernel)) ggX0_giveYear_X0_firstYear
set_option maxRecDepth 20000 in
theorem ggX0_giveYear_X0_lastYear : GoodIn wsX0_giveYear wsX0_lastYear := goodIn_r _ [14, 15, 9, 10, 26, 27, 28, 29, 30, 31, 32, 33, 34, 35, 36, 37, 38, 39, 40, 41, 42] (by decide +kernel) (by decide +kernel)
set_option maxRecDepth 20000 in
theorem gX0_giveYear_X0_lastYear : GoodIn wsX0_giveYear (wsV RX0 64 RX0 yX0_lastYear wsX0_lastYear) := goodIn_app (goodIn_of _ (by decide +kernel)) ggX0_giveYear_X0_lastYear
set_option maxRecDepth 20000 in
theorem ggX0_giveYear_X7_isWithin : GoodIn wsX0_giveYear wsX7_isWithin := goodIn_r _ [18] (by decide +kernel) (by decide +kernel)
set_option maxRecDepth 20000 in
theorem gX0_giveYear_X7_isWithin_n97 : GoodIn wsX0_giveYear (wsX7_isWithin) := ggX0_giveYear_X7_isWithin
set_option maxRecDepth 20000 in
theorem ggX0_giveYear_X0_isClosed : GoodIn wsX0_giveYear wsX0_isClosed := goodIn_r _ [22, 23, 24, 17, 25, 26, 27, 28, 29, 30, 31, 32] (by decide +kernel) (by decide +kernel)
set_option maxRecDepth 20000 in
theorem gX0_giveYear_X0_isClosed : GoodIn wsX0_giveYear (wsV RX0 101 RX0 yX0_isClosed wsX0_isClosed) := goodIn_app (goodIn_of _ (by decide +kernel)) ggX0_giveYear_X0_isClosed
theorem dX0_giveYear_0 : decode cX0_giveYear 0 = .ok (.iconst 0, 1) := by decide +kernel
theorem dX0_giveYear_1 : decode cX0_giveYear 1 = .ok (.istore_n 3, 1) := by decide +kernel
theorem dX0_giveYear_2 : decode cX0_giveYear 2 = .ok (.iconst 0, 1) := by decide +kernel
theorem dX0_giveYear_3 : decode cX0_giveYear 3 = .ok (.istore 4, 2) := by decide +kernel
theorem dX0_giveYear_5 : decode cX0_giveYear 5 = .ok (.iload 4, 2) := by decide +kernel
theorem dX0_giveYear_7 : decode cX0_giveYear 7 = .ok (.iload_n 2, 1) := by decide +kernel
theorem dX0_giveYear_8 : decode cX0_giveYear 8 = .ok (.if_icmp .ge 45, 3) := by decide +kernel
theorem dX0_giveYear_11 : decode cX0_giveYear 11 = .ok (.iload_n 1, 1) := by decide +kernel
theorem dX0_giveYear_12 : decode cX0_giveYear 12 = .ok (.aload_n 0, 1) := by decide +kernel
theorem dX0_giveYear_13 : decode cX0_giveYear 13 = .ok (.aload_n 0, 1) := by decide +kernel
theorem dX0_giveYear_14 : decode cX0_giveYear 14 = .ok (.getfield 21, 3) := by decide +kernel
theorem dX0_giveYear_17 : decode cX0_giveYear 17 = .ok (.iload 4, 2) := by decide +kernel
theorem dX0_giveYear_19 : decode cX0_giveYear 19 = .ok (.iaload, 1) := by decide +kernel
theorem dX0_giveYear_20 : decode cX0_giveYear 20 = .ok (.invokevirtual 50, 3) := by decide +kernel
theorem dX0_giveYear_23 : decode cX0_giveYear 23 = .ok (.aload_n 0, 1) := by decide +kernel
theorem dX0_giveYear_24 : decode cX0_giveYear 24 = .ok (.aload_n 0, 1) := by decide +kernel
theorem dX0_giveYear_25 : decode cX0_giveYear 25 = .ok (.getfield 21, 3) := by decide +kernel
theorem dX0_giveYear_28 : decode cX0_giveYear 28 = .ok (.iload 4, 2) := by decide +kernel
theorem dX0_giveYear_30 : decode cX0_giveYear 30 = .ok (.iaload, 1) := by decide +kernel
theorem dX0_giveYear_31 : decode cX0_giveYear 31 = .ok (.invokevirtual 64, 3) := by decide +kernel
theorem dX0_giveYear_34 : decode cX0_giveYear 34 = .ok (.invokestatic 97, 3) := by decide +kernel
theorem dX0_giveYear_37 : decode cX0_giveYear 37 = .ok (.ifCond .eq 10, 3) := by decide +kernel
theorem dX0_giveYear_40 : decode cX0_giveYear 40 = .ok (.iload_n 3, 1) := by decide +kernel
theorem dX0_giveYear_41 : decode cX0_giveYear 41 = .ok (.iconst 1, 1) := by decide +kernel
theorem dX0_giveYear_42 : decode cX0_giveYear 42 = .ok (.iload 4, 2) := by decide +kernel
theorem dX0_giveYear_44 : decode cX0_giveYear 44 = .ok (.ishl, 1) := by decide +kernel
theorem dX0_giveYear_45 : decode cX0_giveYear 45 = .ok (.ior, 1) := by decide +kernel
theorem dX0_giveYear_46 : decode cX0_giveYear 46 = .ok (.istore_n 3, 1) := by decide +kernel
theorem dX0_giveYear_47 : decode cX0_giveYear 47 = .ok (.iinc 4 1, 3) := by decide +kernel
theorem dX0_giveYear_50 : decode cX0_giveYear 50 = .ok (.goto (-45), 3) := by decide +kernel
theorem dX0_giveYear_53 : decode cX0_giveYear 53 = .ok (.iconst 1, 1) := by decide +kernel
theorem dX0_giveYear_54 : decode cX0_giveYear 54 = .ok (.iload_n 2, 1) := by decide +kernel
theorem dX0_giveYear_55 : decode cX0_giveYear 55 = .ok (.ishl, 1) := by decide +kernel
theorem dX0_giveYear_56 : decode cX0_giveYear 56 = .ok (.iconst 1, 1) := by decide +kernel
theorem dX0_giveYear_57 : decode cX0_giveYear 57 = .ok (.isub, 1) := by decide +kernel
theorem dX0_giveYear_58 : decode cX0_giveYear 58 = .ok (.istore 4, 2) := by decide +kernel
theorem dX0_giveYear_60 : decode cX0_giveYear 60 = .ok (.iload 4, 2) := by decide +kernel
theorem dX0_giveYear_62 : decode cX0_giveYear 62 = .ok (.ifCond .le 74, 3) := by decide +kernel
theorem dX0_giveYear_65 : decode cX0_giveYear 65 = .ok (.iload_n 3, 1) := by decide +kernel
theorem dX0_giveYear_66 : decode cX0_giveYear 66 = .ok (.ifCond .eq 70, 3) := by decide +kernel
theorem dX0_giveYear_69 : decode cX0_giveYear 69 = .ok (.aload_n 0, 1) := by decide +kernel
theorem dX0_giveYear_70 : decode cX0_giveYear 70 = .ok (.iload 4, 2) := by decide +kernel
theorem dX0_giveYear_72 : decode cX0_giveYear 72 = .ok (.iload_n 2, 1) := by decide +kernel
theorem dX0_giveYear_73 : decode cX0_giveYear 73 = .ok (.invokevirtual 101, 3) := by decide +kernel
theorem dX0_giveYear_76 : decode cX0_giveYear 76 = .ok (.ifCond .ne 6, 3) := by decide +kernel
theorem dX0_giveYear_79 : decode cX0_giveYear 79 = .ok (.goto 51, 3) := by decide +kernel
theorem dX0_giveYear_82 : decode cX0_giveYear 82 = .ok (.iconst 1, 1) := by decide +kernel
theorem dX0_giveYear_83 : decode cX0_giveYear 83 = .ok (.istore 5, 2) := by decide +kernel
theorem dX0_giveYear_85 : decode cX0_giveYear 85 = .ok (.iload 5, 2) := by decide +kernel
theorem dX0_giveYear_87 : decode cX0_giveYear 87 = .ok (.iload 4, 2) := by decide +kernel
theorem dX0_giveYear_89 : decode cX0_giveYear 89 = .ok (.if_icmp .gt 41, 3) := by decide +kernel
theorem dX0_giveYear_92 : decode cX0_giveYear 92 = .ok (.iload 5, 2) := by decide +kernel
theorem dX0_giveYear_94 : decode cX0_giveYear 94 = .ok (.iload 4, 2) := by decide +kernel
theorem dX0_giveYear_96 : decode cX0_giveYear 96 = .ok (.iand, 1) := by decide +kernel
theorem dX0_giveYear_97 : decode cX0_giveYear 97 = .ok (.iload_n 3, 1) := by decide +kernel
theorem dX0_giveYear_98 : decode cX0_giveYear 98 = .ok (.iand, 1) := by decide +kernel
theorem dX0_giveYear_99 : decode cX0_giveYear 99 = .ok (.iload 5, 2) := by decide +kernel
theorem dX0_giveYear_101 : decode cX0_giveYear 101 = .ok (.if_icmp .ne 23, 3) := by decide +kernel
theorem dX0_giveYear_104 : decode cX0_giveYear 104 = .ok (.aload_n 0, 1) := by decide +kernel
theorem dX0_giveYear_105 : decode cX0_giveYear 105 = .ok (.getfield 27, 3) := by decide +kernel
theorem dX0_giveYear_108 : decode cX0_giveYear 108 = .ok (.iload 4, 2) := by decide +kernel
theorem dX0_giveYear_110 : decode cX0_giveYear 110 = .ok (.dup2, 1) := by decide +kernel
theorem dX0_giveYear_111 : decode cX0_giveYear 111 = .ok (.laload, 1) := by decide +kernel
theorem dX0_giveYear_112 : decode cX0_giveYear 112 = .ok (.aload_n 0, 1) := by decide +kernel
theorem dX0_giveYear_113 : decode cX0_giveYear 113 = .ok (.getfield 27, 3) := by decide +kernel
theorem dX0_giveYear_116 : decode cX0_giveYear 116 = .ok (.iload 4, 2) := by decide +kernel
theorem dX0_giveYear_118 : decode cX0_giveYear 118 = .ok (.iload 5, 2) := by decide +kernel
theorem dX0_giveYear_120 : decode cX0_giveYear 120 = .ok (.ixor, 1) := by decide +kernel
theorem dX0_giveYear_121 : decode cX0_giveYear 121 = .ok (.laload, 1) := by decide +kernel
theorem dX0_giveYear_122 : decode cX0_giveYear 122 = .ok (.ladd, 1) := by decide +kernel
theorem dX0_giveYear_123 : decode cX0_giveYear 123 = .ok (.lastore, 1) := by decide +kernel
theorem dX0_giveYear_124 : decode cX0_giveYear 124 = .ok (.iinc 5 1, 3) := by decide +kernel
theorem dX0_giveYear_127 : decode cX0_giveYear 127 = .ok (.goto (-42), 3) := by decide +kernel
theorem dX0_giveYear_130 : decode cX0_giveYear 130 = .ok (.iinc 4 (-1), 3) := by decide +kernel
theorem dX0_giveYear_133 : decode cX0_giveYear 133 = .ok (.goto (-73), 3) := by decide +kernel
theorem dX0_giveYear_136 : decode cX0_giveYear 136 = .ok (.return_, 1) := by decide +kernel
set_option maxRecDepth 20000 in
theorem ggX0_isClosed_X7_isIn : GoodIn wsX0_isClosed wsX7_isIn := goodIn_r _ [4] (by decide +kernel) (by decide +kernel)
set_option maxRecDepth 20000 in
theorem gX0_isClosed_X7_isIn_n82 : GoodIn wsX0_isClosed (wsX7_isIn) := ggX0_isClosed_X7_isIn
theorem dX0_isClosed_0 : decode cX0_isClosed 0 = .ok (.iconst 0, 1) := by decide +kernel
theorem dX0_isClosed_1 : decode cX0_isClosed 1 = .ok (.istore_n 3, 1) := by decide +kernel
theorem dX0_isClosed_2 : decode cX0_isClosed 2 = .ok (.iload_n 3, 1) := by decide +kernel
theorem dX0_isClosed_3 : decode cX0_isClosed 3 = .ok (.iload_n 2, 1) := by decide +kernel
theorem dX0_isClosed_4 : decode cX0_isClosed 4 = .ok (.if_icmp .ge 37, 3) := by decide +kernel
theorem dX0_isClosed_7 : decode cX0_isClosed 7 = .ok (.iload_n 1, 1) := by decide +kernel
theorem dX0_isClosed_8 : decode cX0_isClosed 8 = .ok (.i2l, 1) := by decide +kernel
theorem dX0_isClosed_9 : decode cX0_isClosed 9 = .ok (.iload_n 3, 1) := by decide +kernel
theorem dX0_isClosed_10 : decode cX0_isClosed 10 = .ok (.invokestatic 82, 3) := by decide +kernel
theorem dX0_isClosed_13 : decode cX0_isClosed 13 = .ok (.ifCond .eq 22, 3) := by decide +kernel
theorem dX0_isClosed_16 : decode cX0_isClosed 16 = .ok (.aload_n 0, 1) := by decide +kernel
theorem dX0_isClosed_17 : decode cX0_isClosed 17 = .ok (.getfield 24, 3) := by decide +kernel
theorem dX0_isClosed_20 : decode cX0_isClosed 20 = .ok (.iload_n 3, 1) := by decide +kernel
theorem dX0_isClosed_21 : decode cX0_isClosed 21 = .ok (.iaload, 1) := by decide +kernel
theorem dX0_isClosed_22 : decode cX0_isClosed 22 = .ok (.iload_n 1, 1) := by decide +kernel
theorem dX0_isClosed_23 : decode cX0_isClosed 23 = .ok (.iand, 1) := by decide +kernel
theorem dX0_isClosed_24 : decode cX0_isClosed 24 = .ok (.aload_n 0, 1) := by decide +kernel
theorem dX0_isClosed_25 : decode cX0_isClosed 25 = .ok (.getfield 24, 3) := by decide +kernel
theorem dX0_isClosed_28 : decode cX0_isClosed 28 = .ok (.iload_n 3, 1) := by decide +kernel
theorem dX0_isClosed_29 : decode cX0_isClosed 29 = .ok (.iaload, 1) := by decide +kernel
theorem dX0_isClosed_30 : decode cX0_isClosed 30 = .ok (.if_icmp .eq 5, 3) := by decide +kernel
theorem dX0_isClosed_33 : decode cX0_isClosed 33 = .ok (.iconst 0, 1) := by decide +kernel
theorem dX0_isClosed_34 : decode cX0_isClosed 34 = .ok (.ireturn, 1) := by decide +kernel
theorem dX0_isClosed_35 : decode cX0_isClosed 35 = .ok (.iinc 3 1, 3) := by decide +kernel
theorem dX0_isClosed_38 : decode cX0_isClosed 38 = .ok (.goto (-36), 3) := by decide +kernel
theorem dX0_isClosed_41 : decode cX0_isClosed 41 = .ok (.iconst 1, 1) := by decide +kernel
theorem dX0_isClosed_42 : decode cX0_isClosed 42 = .ok (.ireturn, 1) := by decide +kernel
theorem dX2_spread_0 : decode cX2_spread 0 = .ok (.getstatic 9, 3) := by decide +kernel
theorem dX2_spread_3 : decode cX2_spread 3 = .ok (.iload_n 3, 1) := by decide +kernel
theorem dX2_spread_4 : decode cX2_spread 4 = .ok (.iaload, 1) := by decide +kernel
theorem dX2_spread_5 : decode cX2_spread 5 = .ok (.istore 4, 2) := by decide +kernel
theorem dX2_spread_7 : decode cX2_spread 7 = .ok (.lload_n 0, 1) := by decide +kernel
theorem dX2_spread_8 : decode cX2_spread 8 = .ok (.lconst 1, 1) := by decide +kernel
theorem dX2_spread_9 : decode cX2_spread 9 = .ok (.iload_n 2, 1) := by decide +kernel
theorem dX2_spread_10 : decode cX2_spread 10 = .ok (.lshl, 1) := by decide +kernel
theorem dX2_spread_11 : decode cX2_spread 11 = .ok (.land, 1) := by decide +kernel
theorem dX2_spread_12 : decode cX2_spread 12 = .ok (.lstore 5, 2) := by decide +kernel
theorem dX2_spread_14 : decode cX2_spread 14 = .ok (.iconst 0, 1) := by decide +kernel
theorem dX2_spread_15 : decode cX2_spread 15 = .ok (.istore 7, 2) := by decide +kernel
theorem dX2_spread_17 : decode cX2_spread 17 = .ok (.iload 7, 2) := by decide +kernel
theorem dX2_spread_19 : decode cX2_spread 19 = .ok (.bipush 36, 2) := by decide +kernel
theorem dX2_spread_21 : decode cX2_spread 21 = .ok (.if_icmp .ge 76, 3) := by decide +kernel
theorem dX2_spread_24 : decode cX2_spread 24 = .ok (.lload 5, 2) := by decide +kernel
theorem dX2_spread_26 : decode cX2_spread 26 = .ok (.iconst 1, 1) := by decide +kernel
theorem dX2_spread_27 : decode cX2_spread 27 = .ok (.lshl, 1) := by decide +kernel
theorem dX2_spread_28 : decode cX2_spread 28 = .ok (.lload 5, 2) := by decide +kernel
theorem dX2_spread_30 : decode cX2_spread 30 = .ok (.iconst 1, 1) := by decide +kernel
theorem dX2_spread_31 : decode cX2_spread 31 = .ok (.lushr, 1) := by decide +kernel
theorem dX2_spread_32 : decode cX2_spread 32 = .ok (.lor, 1) := by decide +kernel
theorem dX2_spread_33 : decode cX2_spread 33 = .ok (.lload 5, 2) := by decide +kernel
theorem dX2_spread_35 : decode cX2_spread 35 = .ok (.bipush 10, 2) := by decide +kernel
theorem dX2_spread_37 : decode cX2_spread 37 = .ok (.lshl, 1) := by decide +kernel
theorem dX2_spread_38 : decode cX2_spread 38 = .ok (.lor, 1) := by decide +kernel
theorem dX2_spread_39 : decode cX2_spread 39 = .ok (.lload 5, 2) := by decide +kernel
theorem dX2_spread_41 : decode cX2_spread 41 = .ok (.bipush 10, 2) := by decide +kernel
theorem dX2_spread_43 : decode cX2_spread 43 = .ok (.lushr, 1) := by decide +kernel
theorem dX2_spread_44 : decode cX2_spread 44 = .ok (.lor, 1) := by decide +kernel
theorem dX2_spread_45 : decode cX2_spread 45 = .ok (.iload 4, 2) := by decide +kernel
theorem dX2_spread_47 : decode cX2_spread 47 = .ok (.ifCond .ge 12, 3) := by decide +kernel
theorem dX2_spread_50 : decode cX2_spread 50 = .ok (.lload 5, 2) := by decide +kernel
theorem dX2_spread_52 : decode cX2_spread 52 = .ok (.iload 4, 2) := by decide +kernel
theorem dX2_spread_54 : decode cX2_spread 54 = .ok (.ineg, 1) := by decide +kernel
theorem dX2_spread_55 : decode cX2_spread 55 = .ok (.lushr, 1) := by decide +kernel
theorem dX2_spread_56 : decode cX2_spread 56 = .ok (.goto 8, 3) := by decide +kernel
theorem dX2_spread_59 : decode cX2_spread 59 = .ok (.lload 5, 2) := by decide +kernel
theorem dX2_spread_61 : decode cX2_spread 61 = .ok (.iload 4, 2) := by decide +kernel
theorem dX2_spread_63 : decode cX2_spread 63 = .ok (.lshl, 1) := by decide +kernel
theorem dX2_spread_64 : decode cX2_spread 64 = .ok (.lor, 1) := by decide +kernel
theorem dX2_spread_65 : decode cX2_spread 65 = .ok (.lstore 8, 2) := by decide +kernel
theorem dX2_spread_67 : decode cX2_spread 67 = .ok (.lload 5, 2) := by decide +kernel
theorem dX2_spread_69 : decode cX2_spread 69 = .ok (.lload 8, 2) := by decide +kernel
theorem dX2_spread_71 : decode cX2_spread 71 = .ok (.lload_n 0, 1) := by decide +kernel
theorem dX2_spread_72 : decode cX2_spread 72 = .ok (.land, 1) := by decide +kernel
theorem dX2_spread_73 : decode cX2_spread 73 = .ok (.lor, 1) := by decide +kernel
theorem dX2_spread_74 : decode cX2_spread 74 = .ok (.lstore 10, 2) := by decide +kernel
theorem dX2_spread_76 : decode cX2_spread 76 = .ok (.lload 10, 2) := by decide +kernel
theorem dX2_spread_78 : decode cX2_spread 78 = .ok (.lload 5, 2) := by decide +kernel
theorem dX2_spread_80 : decode cX2_spread 80 = .ok (.lcmp, 1) := by decide +kernel
theorem dX2_spread_81 : decode cX2_spread 81 = .ok (.ifCond .ne 6, 3) := by decide +kernel
theorem dX2_spread_84 : decode cX2_spread 84 = .ok (.lload 5, 2) := by decide +kernel
theorem dX2_spread_86 : decode cX2_spread 86 = .ok (.lreturn, 1) := by decide +kernel
theorem dX2_spread_87 : decode cX2_spread 87 = .ok (.lload 10, 2) := by decide +kernel
theorem dX2_spread_89 : decode cX2_spread 89 = .ok (.lstore 5, 2) := by decide +kernel
theorem dX2_spread_91 : decode cX2_spread 91 = .ok (.iinc 7 1, 3) := by decide +kernel
theorem dX2_spread_94 : decode cX2_spread 94 = .ok (.goto (-77), 3) := by decide +kernel
theorem dX2_spread_97 : decode cX2_spread 97 = .ok (.lload 5, 2) := by decide +kernel
theorem dX2_spread_99 : decode cX2_spread 99 = .ok (.lreturn, 1) := by decide +kernel
set_option maxRecDepth 20000 in
theorem ggX2_worstSpark_X7_isIn : GoodIn wsX2_worstSpark wsX7_isIn := goodIn_r _ [4] (by decide +kernel) (by decide +kernel)
set_option maxRecDepth 20000 in
theorem gX2_worstSpark_X7_isIn_n17 : GoodIn wsX2_worstSpark (wsX7_isIn) := ggX2_worstSpark_X7_isIn
set_option maxRecDepth 20000 in
theorem ggX2_worstSpark_X2_spread : GoodIn wsX2_worstSpark wsX2_spread := goodIn_r _ [8, 9] (by decide +kernel) (by decide +kernel)
set_option maxRecDepth 20000 in
theorem gX2_worstSpark_X2_spread : GoodIn wsX2_worstSpark (va_wsS RX2 21 yX2_spread wsX2_spread) := goodIn_app (goodIn_of _ (by decide +kernel)) ggX2_worstSpark_X2_spread
set_option maxRecDepth 20000 in
theorem ggX2_worstSpark_J13_bitCount_95d88 : GoodIn wsX2_worstSpark wsJ13_bitCount_95d88 := goodIn_r _ [13, 14, 15, 16] (by decide +kernel) (by decide +kernel)
set_option maxRecDepth 20000 in
theorem gX2_worstSpark_J13_bitCount_95d88 : GoodIn wsX2_worstSpark (va_wsS RX2 25 yJ13_bitCount_95d88 wsJ13_bitCount_95d88) := goodIn_app (goodIn_of _ (by decide +kernel)) ggX2_worstSpark_J13_bitCount_95d88
theorem dX2_worstSpark_0 : decode cX2_worstSpark 0 = .ok (.bipush (-9), 2) := by decide +kernel
theorem dX2_worstSpark_2 : decode cX2_worstSpark 2 = .ok (.istore_n 3, 1) := by decide +kernel
theorem dX2_worstSpark_3 : decode cX2_worstSpark 3 = .ok (.iconst 0, 1) := by decide +kernel
theorem dX2_worstSpark_4 : decode cX2_worstSpark 4 = .ok (.istore 4, 2) := by decide +kernel
theorem dX2_worstSpark_6 : decode cX2_worstSpark 6 = .ok (.lconst 0, 1) := by decide +kernel
theorem dX2_worstSpark_7 : decode cX2_worstSpark 7 = .ok (.lstore 5, 2) := by decide +kernel
theorem dX2_worstSpark_9 : decode cX2_worstSpark 9 = .ok (.iconst 0, 1) := by decide +kernel
theorem dX2_worstSpark_10 : decode cX2_worstSpark 10 = .ok (.istore 7, 2) := by decide +kernel
theorem dX2_worstSpark_12 : decode cX2_worstSpark 12 = .ok (.iload 7, 2) := by decide +kernel
theorem dX2_worstSpark_14 : decode cX2_worstSpark 14 = .ok (.bipush 60, 2) := by decide +kernel
theorem dX2_worstSpark_16 : decode cX2_worstSpark 16 = .ok (.if_icmp .ge 61, 3) := by decide +kernel
theorem dX2_worstSpark_19 : decode cX2_worstSpark 19 = .ok (.lload_n 0, 1) := by decide +kernel
theorem dX2_worstSpark_20 : decode cX2_worstSpark 20 = .ok (.lload 5, 2) := by decide +kernel
theorem dX2_worstSpark_22 : decode cX2_worstSpark 22 = .ok (.ldc2_w 15, 3) := by decide +kernel
theorem dX2_worstSpark_25 : decode cX2_worstSpark 25 = .ok (.lxor, 1) := by decide +kernel
theorem dX2_worstSpark_26 : decode cX2_worstSpark 26 = .ok (.land, 1) := by decide +kernel
theorem dX2_worstSpark_27 : decode cX2_worstSpark 27 = .ok (.iload 7, 2) := by decide +kernel
theorem dX2_worstSpark_29 : decode cX2_worstSpark 29 = .ok (.invokestatic 17, 3) := by decide +kernel
theorem dX2_worstSpark_32 : decode cX2_worstSpark 32 = .ok (.ifCond .eq 39, 3) := by decide +kernel
theorem dX2_worstSpark_35 : decode cX2_worstSpark 35 = .ok (.lload_n 0, 1) := by decide +kernel
theorem dX2_worstSpark_36 : decode cX2_worstSpark 36 = .ok (.iload 7, 2) := by decide +kernel
theorem dX2_worstSpark_38 : decode cX2_worstSpark 38 = .ok (.iload_n 2, 1) := by decide +kernel
theorem dX2_worstSpark_39 : decode cX2_worstSpark 39 = .ok (.invokestatic 21, 3) := by decide +kernel
theorem dX2_worstSpark_42 : decode cX2_worstSpark 42 = .ok (.lstore 8, 2) := by decide +kernel
theorem dX2_worstSpark_44 : decode cX2_worstSpark 44 = .ok (.lload 5, 2) := by decide +kernel
theorem dX2_worstSpark_46 : decode cX2_worstSpark 46 = .ok (.lload 8, 2) := by decide +kernel
theorem dX2_worstSpark_48 : decode cX2_worstSpark 48 = .ok (.lor, 1) := by decide +kernel
theorem dX2_worstSpark_49 : decode cX2_worstSpark 49 = .ok (.lstore 5, 2) := by decide +kernel
theorem dX2_worstSpark_51 : decode cX2_worstSpark 51 = .ok (.lload 8, 2) := by decide +kernel
theorem dX2_worstSpark_53 : decode cX2_worstSpark 53 = .ok (.invokestatic 25, 3) := by decide +kernel
theorem dX2_worstSpark_56 : decode cX2_worstSpark 56 = .ok (.iload 4, 2) := by decide +kernel
theorem dX2_worstSpark_58 : decode cX2_worstSpark 58 = .ok (.if_icmp .le 13, 3) := by decide +kernel
theorem dX2_worstSpark_61 : decode cX2_worstSpark 61 = .ok (.lload 8, 2) := by decide +kernel
theorem dX2_worstSpark_63 : decode cX2_worstSpark 63 = .ok (.invokestatic 25, 3) := by decide +kernel
theorem dX2_worstSpark_66 : decode cX2_worstSpark 66 = .ok (.istore 4, 2) := by decide +kernel
theorem dX2_worstSpark_68 : decode cX2_worstSpark 68 = .ok (.iload 7, 2) := by decide +kernel
theorem dX2_worstSpark_70 : decode cX2_worstSpark 70 = .ok (.istore_n 3, 1) := by decide +kernel
theorem dX2_worstSpark_71 : decode cX2_worstSpark 71 = .ok (.iinc 7 1, 3) := by decide +kernel
theorem dX2_worstSpark_74 : decode cX2_worstSpark 74 = .ok (.goto (-62), 3) := by decide +kernel
theorem dX2_worstSpark_77 : decode cX2_worstSpark 77 = .ok (.iload_n 3, 1) := by decide +kernel
theorem dX2_worstSpark_78 : decode cX2_worstSpark 78 = .ok (.ireturn, 1) := by decide +kernel
set_option maxRecDepth 20000 in
theorem ggX2_bestCleared_X7_isIn : GoodIn wsX2_bestCleared wsX7_isIn := goodIn_r _ [4] (by decide +kernel) (by decide +kernel)
set_option maxRecDepth 20000 in
theorem gX2_bestCleared_X7_isIn_n17 : GoodIn wsX2_bestCleared (wsX7_isIn) := ggX2_bestCleared_X7_isIn
set_option maxRecDepth 20000 in
theorem ggX2_bestCleared_X2_worstSpark : GoodIn wsX2_bestCleared wsX2_worstSpark := goodIn_r _ [8, 1, 2, 3, 4, 9, 10, 7, 11, 12, 13, 14, 15, 16, 17, 18, 19] (by decide +kernel) (by decide +kernel)
set_option maxRecDepth 20000 in
theorem gX2_bestCleared_X2_worstSpark : GoodIn wsX2_bestCleared (va_wsS RX2 31 yX2_worstSpark wsX2_worstSpark) := goodIn_app (goodIn_of _ (by decide +kernel)) ggX2_bestCleared_X2_worstSpark
set_option maxRecDepth 20000 in
theorem ggX2_bestCleared_X2_spread : GoodIn wsX2_bestCleared wsX2_spread := goodIn_r _ [11, 12] (by decide +kernel) (by decide +kernel)
set_option maxRecDepth 20000 in
theorem gX2_bestCleared_X2_spread : GoodIn wsX2_bestCleared (va_wsS RX2 21 yX2_spread wsX2_spread) := goodIn_app (goodIn_of _ (by decide +kernel)) ggX2_bestCleared_X2_spread
set_option maxRecDepth 20000 in
theorem ggX2_bestCleared_J13_bitCount_95d88 : GoodIn wsX2_bestCleared wsJ13_bitCount_95d88 := goodIn_r _ [16, 17, 18, 19] (by decide +kernel) (by decide +kernel)
set_option maxRecDepth 20000 in
theorem gX2_bestCleared_J13_bitCount_95d88 : GoodIn wsX2_bestCleared (va_wsS RX2 25 yJ13_bitCount_95d88 wsJ13_bitCount_95d88) := goodIn_app (goodIn_of _ (by decide +kernel)) ggX2_bestCleared_J13_bitCount_95d88
theorem dX2_bestCleared_0 : decode cX2_bestCleared 0 = .ok (.bipush (-9), 2) := by decide +kernel
theorem dX2_bestCleared_2 : decode cX2_bestCleared 2 = .ok (.istore_n 3, 1) := by decide +kernel
theorem dX2_bestCleared_3 : decode cX2_bestCleared 3 = .ok (.bipush 60, 2) := by decide +kernel
theorem dX2_bestCleared_5 : decode cX2_bestCleared 5 = .ok (.istore 4, 2) := by decide +kernel
theorem dX2_bestCleared_7 : decode cX2_bestCleared 7 = .ok (.iconst 0, 1) := by decide +kernel
theorem dX2_bestCleared_8 : decode cX2_bestCleared 8 = .ok (.istore 5, 2) := by decide +kernel
theorem dX2_bestCleared_10 : decode cX2_bestCleared 10 = .ok (.iload 5, 2) := by decide +kernel
theorem dX2_bestCleared_12 : decode cX2_bestCleared 12 = .ok (.bipush 60, 2) := by decide +kernel
theorem dX2_bestCleared_14 : decode cX2_bestCleared 14 = .ok (.if_icmp .ge 76, 3) := by decide +kernel
theorem dX2_bestCleared_17 : decode cX2_bestCleared 17 = .ok (.lload_n 0, 1) := by decide +kernel
theorem dX2_bestCleared_18 : decode cX2_bestCleared 18 = .ok (.iload 5, 2) := by decide +kernel
theorem dX2_bestCleared_20 : decode cX2_bestCleared 20 = .ok (.invokestatic 17, 3) := by decide +kernel
theorem dX2_bestCleared_23 : decode cX2_bestCleared 23 = .ok (.ifCond .eq 61, 3) := by decide +kernel
theorem dX2_bestCleared_26 : decode cX2_bestCleared 26 = .ok (.lload_n 0, 1) := by decide +kernel
theorem dX2_bestCleared_27 : decode cX2_bestCleared 27 = .ok (.lconst 1, 1) := by decide +kernel
theorem dX2_bestCleared_28 : decode cX2_bestCleared 28 = .ok (.iload 5, 2) := by decide +kernel
theorem dX2_bestCleared_30 : decode cX2_bestCleared 30 = .ok (.lshl, 1) := by decide +kernel
theorem dX2_bestCleared_31 : decode cX2_bestCleared 31 = .ok (.ldc2_w 15, 3) := by decide +kernel
theorem dX2_bestCleared_34 : decode cX2_bestCleared 34 = .ok (.lxor, 1) := by decide +kernel
theorem dX2_bestCleared_35 : decode cX2_bestCleared 35 = .ok (.land, 1) := by decide +kernel
theorem dX2_bestCleared_36 : decode cX2_bestCleared 36 = .ok (.lstore 6, 2) := by decide +kernel
theorem dX2_bestCleared_38 : decode cX2_bestCleared 38 = .ok (.lload 6, 2) := by decide +kernel
theorem dX2_bestCleared_40 : decode cX2_bestCleared 40 = .ok (.iload_n 2, 1) := by decide +kernel
theorem dX2_bestCleared_41 : decode cX2_bestCleared 41 = .ok (.invokestatic 31, 3) := by decide +kernel
theorem dX2_bestCleared_44 : decode cX2_bestCleared 44 = .ok (.istore 8, 2) := by decide +kernel
theorem dX2_bestCleared_46 : decode cX2_bestCleared 46 = .ok (.iload 8, 2) := by decide +kernel
theorem dX2_bestCleared_48 : decode cX2_bestCleared 48 = .ok (.bipush (-9), 2) := by decide +kernel
theorem dX2_bestCleared_50 : decode cX2_bestCleared 50 = .ok (.if_icmp .ne 7, 3) := by decide +kernel
theorem dX2_bestCleared_53 : decode cX2_bestCleared 53 = .ok (.iconst 0, 1) := by decide +kernel
theorem dX2_bestCleared_54 : decode cX2_bestCleared 54 = .ok (.goto 14, 3) := by decide +kernel
theorem dX2_bestCleared_57 : decode cX2_bestCleared 57 = .ok (.lload 6, 2) := by decide +kernel
theorem dX2_bestCleared_59 : decode cX2_bestCleared 59 = .ok (.iload 8, 2) := by decide +kernel
theorem dX2_bestCleared_61 : decode cX2_bestCleared 61 = .ok (.iload_n 2, 1) := by decide +kernel
theorem dX2_bestCleared_62 : decode cX2_bestCleared 62 = .ok (.invokestatic 21, 3) := by decide +kernel
theorem dX2_bestCleared_65 : decode cX2_bestCleared 65 = .ok (.invokestatic 25, 3) := by decide +kernel
theorem dX2_bestCleared_68 : decode cX2_bestCleared 68 = .ok (.istore 9, 2) := by decide +kernel
theorem dX2_bestCleared_70 : decode cX2_bestCleared 70 = .ok (.iload 9, 2) := by decide +kernel
theorem dX2_bestCleared_72 : decode cX2_bestCleared 72 = .ok (.iload 4, 2) := by decide +kernel
theorem dX2_bestCleared_74 : decode cX2_bestCleared 74 = .ok (.if_icmp .ge 10, 3) := by decide +kernel
theorem dX2_bestCleared_77 : decode cX2_bestCleared 77 = .ok (.iload 9, 2) := by decide +kernel
theorem dX2_bestCleared_79 : decode cX2_bestCleared 79 = .ok (.istore 4, 2) := by decide +kernel
theorem dX2_bestCleared_81 : decode cX2_bestCleared 81 = .ok (.iload 5, 2) := by decide +kernel
theorem dX2_bestCleared_83 : decode cX2_bestCleared 83 = .ok (.istore_n 3, 1) := by decide +kernel
theorem dX2_bestCleared_84 : decode cX2_bestCleared 84 = .ok (.iinc 5 1, 3) := by decide +kernel
theorem dX2_bestCleared_87 : decode cX2_bestCleared 87 = .ok (.goto (-77), 3) := by decide +kernel
theorem dX2_bestCleared_90 : decode cX2_bestCleared 90 = .ok (.iload_n 3, 1) := by decide +kernel
theorem dX2_bestCleared_91 : decode cX2_bestCleared 91 = .ok (.ireturn, 1) := by decide +kernel
set_option maxRecDepth 20000 in
theorem ggX3_init_X3_raise : GoodIn wsX3_init wsX3_raise := goodIn_r _ [13, 14, 15, 16, 6, 7, 8, 17, 18, 19, 20, 21, 22, 23, 24, 25, 26, 27, 28, 29, 30] (by decide +kernel) (by decide +kernel)
set_option maxRecDepth 20000 in
theorem gX3_init_X3_raise : GoodIn wsX3_init (wsV RX3 25 RX3 yX3_raise wsX3_raise) := goodIn_app (goodIn_of _ (by decide +kernel)) ggX3_init_X3_raise
theorem dX3_init_0 : decode cX3_init 0 = .ok (.aload_n 0, 1) := by decide +kernel
theorem dX3_init_1 : decode cX3_init 1 = .ok (.invokespecial 3, 3) := by decide +kernel
theorem dX3_init_4 : decode cX3_init 4 = .ok (.aload_n 0, 1) := by decide +kernel
theorem dX3_init_5 : decode cX3_init 5 = .ok (.iconst 2, 1) := by decide +kernel
theorem dX3_init_6 : decode cX3_init 6 = .ok (.putfield 9, 3) := by decide +kernel
theorem dX3_init_9 : decode cX3_init 9 = .ok (.aload_n 0, 1) := by decide +kernel
theorem dX3_init_10 : decode cX3_init 10 = .ok (.bipush 36, 2) := by decide +kernel
theorem dX3_init_12 : decode cX3_init 12 = .ok (.newarray .int, 2) := by decide +kernel
theorem dX3_init_14 : decode cX3_init 14 = .ok (.putfield 15, 3) := by decide +kernel
theorem dX3_init_17 : decode cX3_init 17 = .ok (.aload_n 0, 1) := by decide +kernel
theorem dX3_init_18 : decode cX3_init 18 = .ok (.bipush 60, 2) := by decide +kernel
theorem dX3_init_20 : decode cX3_init 20 = .ok (.newarray .int, 2) := by decide +kernel
theorem dX3_init_22 : decode cX3_init 22 = .ok (.putfield 19, 3) := by decide +kernel
theorem dX3_init_25 : decode cX3_init 25 = .ok (.aload_n 0, 1) := by decide +kernel
theorem dX3_init_26 : decode cX3_init 26 = .ok (.bipush 60, 2) := by decide +kernel
theorem dX3_init_28 : decode cX3_init 28 = .ok (.newarray .int, 2) := by decide +kernel
theorem dX3_init_30 : decode cX3_init 30 = .ok (.putfield 22, 3) := by decide +kernel
theorem dX3_init_33 : decode cX3_init 33 = .ok (.aload_n 0, 1) := by decide +kernel
theorem dX3_init_34 : decode cX3_init 34 = .ok (.iconst 4, 1) := by decide +kernel
theorem dX3_init_35 : decode cX3_init 35 = .ok (.iconst 4, 1) := by decide +kernel
theorem dX3_init_36 : decode cX3_init 36 = .ok (.invokevirtual 25, 3) := by decide +kernel
theorem dX3_init_39 : decode cX3_init 39 = .ok (.return_, 1) := by decide +kernel
set_option maxRecDepth 20000 in
theorem ggX3_raise_X7_cellOf : GoodIn wsX3_raise wsX7_cellOf := goodIn_r _ [9] (by decide +kernel) (by decide +kernel)
set_option maxRecDepth 20000 in
theorem gX3_raise_X7_cellOf_n38 : GoodIn wsX3_raise (wsX7_cellOf) := ggX3_raise_X7_cellOf
set_option maxRecDepth 20000 in
theorem ggX3_raise_J7_fill_53178 : GoodIn wsX3_raise wsJ7_fill_53178 := goodIn_r _ [13] (by decide +kernel) (by decide +kernel)
set_option maxRecDepth 20000 in
theorem gX3_raise_J7_fill_53178 : GoodIn wsX3_raise (va_wsS RX3 42 yJ7_fill_53178 wsJ7_fill_53178) := goodIn_app (goodIn_of _ (by decide +kernel)) ggX3_raise_J7_fill_53178
theorem dX3_raise_0 : decode cX3_raise 0 = .ok (.aload_n 0, 1) := by decide +kernel
theorem dX3_raise_1 : decode cX3_raise 1 = .ok (.iload_n 1, 1) := by decide +kernel
theorem dX3_raise_2 : decode cX3_raise 2 = .ok (.putfield 29, 3) := by decide +kernel
theorem dX3_raise_5 : decode cX3_raise 5 = .ok (.aload_n 0, 1) := by decide +kernel
theorem dX3_raise_6 : decode cX3_raise 6 = .ok (.iload_n 2, 1) := by decide +kernel
theorem dX3_raise_7 : decode cX3_raise 7 = .ok (.putfield 32, 3) := by decide +kernel
theorem dX3_raise_10 : decode cX3_raise 10 = .ok (.aload_n 0, 1) := by decide +kernel
theorem dX3_raise_11 : decode cX3_raise 11 = .ok (.iconst 0, 1) := by decide +kernel
theorem dX3_raise_12 : decode cX3_raise 12 = .ok (.putfield 35, 3) := by decide +kernel
theorem dX3_raise_15 : decode cX3_raise 15 = .ok (.iconst 0, 1) := by decide +kernel
theorem dX3_raise_16 : decode cX3_raise 16 = .ok (.istore_n 3, 1) := by decide +kernel
theorem dX3_raise_17 : decode cX3_raise 17 = .ok (.iload_n 3, 1) := by decide +kernel
theorem dX3_raise_18 : decode cX3_raise 18 = .ok (.aload_n 0, 1) := by decide +kernel
theorem dX3_raise_19 : decode cX3_raise 19 = .ok (.getfield 29, 3) := by decide +kernel
theorem dX3_raise_22 : decode cX3_raise 22 = .ok (.if_icmp .ge 49, 3) := by decide +kernel
theorem dX3_raise_25 : decode cX3_raise 25 = .ok (.iconst 0, 1) := by decide +kernel
theorem dX3_raise_26 : decode cX3_raise 26 = .ok (.istore 4, 2) := by decide +kernel
theorem dX3_raise_28 : decode cX3_raise 28 = .ok (.iload 4, 2) := by decide +kernel
theorem dX3_raise_30 : decode cX3_raise 30 = .ok (.aload_n 0, 1) := by decide +kernel
theorem dX3_raise_31 : decode cX3_raise 31 = .ok (.getfield 32, 3) := by decide +kernel
theorem dX3_raise_34 : decode cX3_raise 34 = .ok (.if_icmp .ge 31, 3) := by decide +kernel
theorem dX3_raise_37 : decode cX3_raise 37 = .ok (.aload_n 0, 1) := by decide +kernel
theorem dX3_raise_38 : decode cX3_raise 38 = .ok (.getfield 15, 3) := by decide +kernel
theorem dX3_raise_41 : decode cX3_raise 41 = .ok (.aload_n 0, 1) := by decide +kernel
theorem dX3_raise_42 : decode cX3_raise 42 = .ok (.dup, 1) := by decide +kernel
theorem dX3_raise_43 : decode cX3_raise 43 = .ok (.getfield 35, 3) := by decide +kernel
theorem dX3_raise_46 : decode cX3_raise 46 = .ok (.dup_x1, 1) := by decide +kernel
theorem dX3_raise_47 : decode cX3_raise 47 = .ok (.iconst 1, 1) := by decide +kernel
theorem dX3_raise_48 : decode cX3_raise 48 = .ok (.iadd, 1) := by decide +kernel
theorem dX3_raise_49 : decode cX3_raise 49 = .ok (.putfield 35, 3) := by decide +kernel
theorem dX3_raise_52 : decode cX3_raise 52 = .ok (.iload_n 3, 1) := by decide +kernel
theorem dX3_raise_53 : decode cX3_raise 53 = .ok (.iload 4, 2) := by decide +kernel
theorem dX3_raise_55 : decode cX3_raise 55 = .ok (.invokestatic 38, 3) := by decide +kernel
theorem dX3_raise_58 : decode cX3_raise 58 = .ok (.iastore, 1) := by decide +kernel
theorem dX3_raise_59 : decode cX3_raise 59 = .ok (.iinc 4 1, 3) := by decide +kernel
theorem dX3_raise_62 : decode cX3_raise 62 = .ok (.goto (-34), 3) := by decide +kernel
theorem dX3_raise_65 : decode cX3_raise 65 = .ok (.iinc 3 1, 3) := by decide +kernel
theorem dX3_raise_68 : decode cX3_raise 68 = .ok (.goto (-51), 3) := by decide +kernel
theorem dX3_raise_71 : decode cX3_raise 71 = .ok (.aload_n 0, 1) := by decide +kernel
theorem dX3_raise_72 : decode cX3_raise 72 = .ok (.getfield 19, 3) := by decide +kernel
theorem dX3_raise_75 : decode cX3_raise 75 = .ok (.iconst 1, 1) := by decide +kernel
theorem dX3_raise_76 : decode cX3_raise 76 = .ok (.invokestatic 42, 3) := by decide +kernel
theorem dX3_raise_79 : decode cX3_raise 79 = .ok (.aload_n 0, 1) := by decide +kernel
theorem dX3_raise_80 : decode cX3_raise 80 = .ok (.getfield 22, 3) := by decide +kernel
theorem dX3_raise_83 : decode cX3_raise 83 = .ok (.iconst 0, 1) := by decide +kernel
theorem dX3_raise_84 : decode cX3_raise 84 = .ok (.invokestatic 42, 3) := by decide +kernel
theorem dX3_raise_87 : decode cX3_raise 87 = .ok (.return_, 1) := by decide +kernel
set_option maxRecDepth 20000 in
theorem ggX3_hasColumn_X7_isWithin : GoodIn wsX3_hasColumn wsX7_isWithin := goodIn_r _ [4] (by decide +kernel) (by decide +kernel)
set_option maxRecDepth 20000 in
theorem gX3_hasColumn_X7_isWithin_n48 : GoodIn wsX3_hasColumn (wsX7_isWithin) := ggX3_hasColumn_X7_isWithin
theorem dX3_hasColumn_0 : decode cX3_hasColumn 0 = .ok (.iload_n 1, 1) := by decide +kernel
theorem dX3_hasColumn_1 : decode cX3_hasColumn 1 = .ok (.iconst 0, 1) := by decide +kernel
theorem dX3_hasColumn_2 : decode cX3_hasColumn 2 = .ok (.aload_n 0, 1) := by decide +kernel
theorem dX3_hasColumn_3 : decode cX3_hasColumn 3 = .ok (.getfield 29, 3) := by decide +kernel
theorem dX3_hasColumn_6 : decode cX3_hasColumn 6 = .ok (.iconst 1, 1) := by decide +kernel
theorem dX3_hasColumn_7 : decode cX3_hasColumn 7 = .ok (.isub, 1) := by decide +kernel
theorem dX3_hasColumn_8 : decode cX3_hasColumn 8 = .ok (.invokestatic 48, 3) := by decide +kernel
theorem dX3_hasColumn_11 : decode cX3_hasColumn 11 = .ok (.ireturn, 1) := by decide +kernel
set_option maxRecDepth 20000 in
theorem ggX3_hasRow_X7_isWithin : GoodIn wsX3_hasRow wsX7_isWithin := goodIn_r _ [4] (by decide +kernel) (by decide +kernel)
set_option maxRecDepth 20000 in
theorem gX3_hasRow_X7_isWithin_n48 : GoodIn wsX3_hasRow (wsX7_isWithin) := ggX3_hasRow_X7_isWithin
theorem dX3_hasRow_0 : decode cX3_hasRow 0 = .ok (.iload_n 1, 1) := by decide +kernel
theorem dX3_hasRow_1 : decode cX3_hasRow 1 = .ok (.iconst 0, 1) := by decide +kernel
theorem dX3_hasRow_2 : decode cX3_hasRow 2 = .ok (.aload_n 0, 1) := by decide +kernel
theorem dX3_hasRow_3 : decode cX3_hasRow 3 = .ok (.getfield 32, 3) := by decide +kernel
theorem dX3_hasRow_6 : decode cX3_hasRow 6 = .ok (.iconst 1, 1) := by decide +kernel
theorem dX3_hasRow_7 : decode cX3_hasRow 7 = .ok (.isub, 1) := by decide +kernel
theorem dX3_hasRow_8 : decode cX3_hasRow 8 = .ok (.invokestatic 48, 3) := by decide +kernel
theorem dX3_hasRow_11 : decode cX3_hasRow 11 = .ok (.ireturn, 1) := by decide +kernel
set_option maxRecDepth 20000 in
theorem ggX3_hasCell_X3_hasColumn : GoodIn wsX3_hasCell wsX3_hasColumn := goodIn_r _ [5, 6, 7, 8, 9, 15, 16, 17, 18, 19, 20, 21] (by decide +kernel) (by decide +kernel)
set_option maxRecDepth 20000 in
theorem gX3_hasCell_X3_hasColumn : GoodIn wsX3_hasCell (wsV RX3 52 RX3 yX3_hasColumn wsX3_hasColumn) := goodIn_app (goodIn_of _ (by decide +kernel)) ggX3_hasCell_X3_hasColumn
set_option maxRecDepth 20000 in
theorem ggX3_hasCell_X3_hasRow : GoodIn wsX3_hasCell wsX3_hasRow := goodIn_r _ [13, 14, 7, 8, 9, 15, 16, 17, 18, 19, 20, 21] (by decide +kernel) (by decide +kernel)
set_option maxRecDepth 20000 in
theorem gX3_hasCell_X3_hasRow : GoodIn wsX3_hasCell (wsV RX3 56 RX3 yX3_hasRow wsX3_hasRow) := goodIn_app (goodIn_of _ (by decide +kernel)) ggX3_hasCell_X3_hasRow
theorem dX3_hasCell_0 : decode cX3_hasCell 0 = .ok (.aload_n 0, 1) := by decide +kernel
theorem dX3_hasCell_1 : decode cX3_hasCell 1 = .ok (.iload_n 1, 1) := by decide +kernel
theorem dX3_hasCell_2 : decode cX3_hasCell 2 = .ok (.invokevirtual 52, 3) := by decide +kernel
theorem dX3_hasCell_5 : decode cX3_hasCell 5 = .ok (.ifCond .eq 15, 3) := by decide +kernel
theorem dX3_hasCell_8 : decode cX3_hasCell 8 = .ok (.aload_n 0, 1) := by decide +kernel
theorem dX3_hasCell_9 : decode cX3_hasCell 9 = .ok (.iload_n 2, 1) := by decide +kernel
theorem dX3_hasCell_10 : decode cX3_hasCell 10 = .ok (.invokevirtual 56, 3) := by decide +kernel
theorem dX3_hasCell_13 : decode cX3_hasCell 13 = .ok (.ifCond .eq 7, 3) := by decide +kernel
theorem dX3_hasCell_16 : decode cX3_hasCell 16 = .ok (.iconst 1, 1) := by decide +kernel
theorem dX3_hasCell_17 : decode cX3_hasCell 17 = .ok (.goto 4, 3) := by decide +kernel
theorem dX3_hasCell_20 : decode cX3_hasCell 20 = .ok (.iconst 0, 1) := by decide +kernel
theorem dX3_hasCell_21 : decode cX3_hasCell 21 = .ok (.ireturn, 1) := by decide +kernel
theorem dX3_isOpening_0 : decode cX3_isOpening 0 = .ok (.aload_n 0, 1) := by decide +kernel
theorem dX3_isOpening_1 : decode cX3_isOpening 1 = .ok (.getfield 22, 3) := by decide +kernel
theorem dX3_isOpening_4 : decode cX3_isOpening 4 = .ok (.iload_n 1, 1) := by decide +kernel
theorem dX3_isOpening_5 : decode cX3_isOpening 5 = .ok (.iaload, 1) := by decide +kernel
theorem dX3_isOpening_6 : decode cX3_isOpening 6 = .ok (.ifCond .eq 7, 3) := by decide +kernel
theorem dX3_isOpening_9 : decode cX3_isOpening 9 = .ok (.iconst 1, 1) := by decide +kernel
theorem dX3_isOpening_10 : decode cX3_isOpening 10 = .ok (.goto 4, 3) := by decide +kernel
theorem dX3_isOpening_13 : decode cX3_isOpening 13 = .ok (.iconst 0, 1) := by decide +kernel
theorem dX3_isOpening_14 : decode cX3_isOpening 14 = .ok (.ireturn, 1) := by decide +kernel
set_option maxRecDepth 20000 in
theorem ggX3_countOpenings_X3_isOpening : GoodIn wsX3_countOpenings wsX3_isOpening := goodIn_r _ [7, 8, 9, 10, 11, 12, 13, 14, 15] (by decide +kernel) (by decide +kernel)
set_option maxRecDepth 20000 in
theorem gX3_countOpenings_X3_isOpening : GoodIn wsX3_countOpenings (wsV RX3 59 RX3 yX3_isOpening wsX3_isOpening) := goodIn_app (goodIn_of _ (by decide +kernel)) ggX3_countOpenings_X3_isOpening
theorem dX3_countOpenings_0 : decode cX3_countOpenings 0 = .ok (.iconst 0, 1) := by decide +kernel
theorem dX3_countOpenings_1 : decode cX3_countOpenings 1 = .ok (.istore_n 1, 1) := by decide +kernel
theorem dX3_countOpenings_2 : decode cX3_countOpenings 2 = .ok (.iconst 0, 1) := by decide +kernel
theorem dX3_countOpenings_3 : decode cX3_countOpenings 3 = .ok (.istore_n 2, 1) := by decide +kernel
theorem dX3_countOpenings_4 : decode cX3_countOpenings 4 = .ok (.iload_n 2, 1) := by decide +kernel
theorem dX3_countOpenings_5 : decode cX3_countOpenings 5 = .ok (.aload_n 0, 1) := by decide +kernel
theorem dX3_countOpenings_6 : decode cX3_countOpenings 6 = .ok (.getfield 35, 3) := by decide +kernel
theorem dX3_countOpenings_9 : decode cX3_countOpenings 9 = .ok (.if_icmp .ge 25, 3) := by decide +kernel
theorem dX3_countOpenings_12 : decode cX3_countOpenings 12 = .ok (.aload_n 0, 1) := by decide +kernel
theorem dX3_countOpenings_13 : decode cX3_countOpenings 13 = .ok (.aload_n 0, 1) := by decide +kernel
theorem dX3_countOpenings_14 : decode cX3_countOpenings 14 = .ok (.getfield 15, 3) := by decide +kernel
theorem dX3_countOpenings_17 : decode cX3_countOpenings 17 = .ok (.iload_n 2, 1) := by decide +kernel
theorem dX3_countOpenings_18 : decode cX3_countOpenings 18 = .ok (.iaload, 1) := by decide +kernel
theorem dX3_countOpenings_19 : decode cX3_countOpenings 19 = .ok (.invokevirtual 59, 3) := by decide +kernel
theorem dX3_countOpenings_22 : decode cX3_countOpenings 22 = .ok (.ifCond .eq 6, 3) := by decide +kernel
theorem dX3_countOpenings_25 : decode cX3_countOpenings 25 = .ok (.iinc 1 1, 3) := by decide +kernel
theorem dX3_countOpenings_28 : decode cX3_countOpenings 28 = .ok (.iinc 2 1, 3) := by decide +kernel
theorem dX3_countOpenings_31 : decode cX3_countOpenings 31 = .ok (.goto (-27), 3) := by decide +kernel
theorem dX3_countOpenings_34 : decode cX3_countOpenings 34 = .ok (.iload_n 1, 1) := by decide +kernel
theorem dX3_countOpenings_35 : decode cX3_countOpenings 35 = .ok (.ireturn, 1) := by decide +kernel
theorem dX3_lap_0 : decode cX3_lap 0 = .ok (.aload_n 0, 1) := by decide +kernel
theorem dX3_lap_1 : decode cX3_lap 1 = .ok (.getfield 9, 3) := by decide +kernel
theorem dX3_lap_4 : decode cX3_lap 4 = .ok (.iconst 1, 1) := by decide +kernel
theorem dX3_lap_5 : decode cX3_lap 5 = .ok (.if_icmp .ne 7, 3) := by decide +kernel
theorem dX3_lap_8 : decode cX3_lap 8 = .ok (.iconst 2, 1) := by decide +kernel
theorem dX3_lap_9 : decode cX3_lap 9 = .ok (.goto 4, 3) := by decide +kernel
theorem dX3_lap_12 : decode cX3_lap 12 = .ok (.iconst 1, 1) := by decide +kernel
theorem dX3_lap_13 : decode cX3_lap 13 = .ok (.ireturn, 1) := by decide +kernel
set_option maxRecDepth 20000 in
theorem ggX3_lowestRow_X7_cellOf : GoodIn wsX3_lowestRow wsX7_cellOf := goodIn_r _ [3] (by decide +kernel) (by decide +kernel)
set_option maxRecDepth 20000 in
theorem gX3_lowestRow_X7_cellOf_n38 : GoodIn wsX3_lowestRow (wsX7_cellOf) := ggX3_lowestRow_X7_cellOf
set_option maxRecDepth 20000 in
theorem ggX3_lowestRow_X3_isOpening : GoodIn wsX3_lowestRow wsX3_isOpening := goodIn_r _ [8, 9, 10, 11, 12, 13, 14, 15, 16] (by decide +kernel) (by decide +kernel)
set_option maxRecDepth 20000 in
theorem gX3_lowestRow_X3_isOpening : GoodIn wsX3_lowestRow (wsV RX3 59 RX3 yX3_isOpening wsX3_isOpening) := goodIn_app (goodIn_of _ (by decide +kernel)) ggX3_lowestRow_X3_isOpening
theorem dX3_lowestRow_0 : decode cX3_lowestRow 0 = .ok (.iload_n 2, 1) := by decide +kernel
theorem dX3_lowestRow_1 : decode cX3_lowestRow 1 = .ok (.istore 4, 2) := by decide +kernel
theorem dX3_lowestRow_3 : decode cX3_lowestRow 3 = .ok (.iload_n 2, 1) := by decide +kernel
theorem dX3_lowestRow_4 : decode cX3_lowestRow 4 = .ok (.iconst 1, 1) := by decide +kernel
theorem dX3_lowestRow_5 : decode cX3_lowestRow 5 = .ok (.isub, 1) := by decide +kernel
theorem dX3_lowestRow_6 : decode cX3_lowestRow 6 = .ok (.istore 5, 2) := by decide +kernel
theorem dX3_lowestRow_8 : decode cX3_lowestRow 8 = .ok (.iload 5, 2) := by decide +kernel
theorem dX3_lowestRow_10 : decode cX3_lowestRow 10 = .ok (.ifCond .lt 37, 3) := by decide +kernel
theorem dX3_lowestRow_13 : decode cX3_lowestRow 13 = .ok (.iload 5, 2) := by decide +kernel
theorem dX3_lowestRow_15 : decode cX3_lowestRow 15 = .ok (.iload_n 2, 1) := by decide +kernel
theorem dX3_lowestRow_16 : decode cX3_lowestRow 16 = .ok (.iload_n 3, 1) := by decide +kernel
theorem dX3_lowestRow_17 : decode cX3_lowestRow 17 = .ok (.isub, 1) := by decide +kernel
theorem dX3_lowestRow_18 : decode cX3_lowestRow 18 = .ok (.if_icmp .le 29, 3) := by decide +kernel
theorem dX3_lowestRow_21 : decode cX3_lowestRow 21 = .ok (.aload_n 0, 1) := by decide +kernel
theorem dX3_lowestRow_22 : decode cX3_lowestRow 22 = .ok (.iload_n 1, 1) := by decide +kernel
theorem dX3_lowestRow_23 : decode cX3_lowestRow 23 = .ok (.iload 5, 2) := by decide +kernel
theorem dX3_lowestRow_25 : decode cX3_lowestRow 25 = .ok (.invokestatic 38, 3) := by decide +kernel
theorem dX3_lowestRow_28 : decode cX3_lowestRow 28 = .ok (.invokevirtual 59, 3) := by decide +kernel
theorem dX3_lowestRow_31 : decode cX3_lowestRow 31 = .ok (.ifCond .eq 6, 3) := by decide +kernel
theorem dX3_lowestRow_34 : decode cX3_lowestRow 34 = .ok (.iload 4, 2) := by decide +kernel
theorem dX3_lowestRow_36 : decode cX3_lowestRow 36 = .ok (.ireturn, 1) := by decide +kernel
theorem dX3_lowestRow_37 : decode cX3_lowestRow 37 = .ok (.iload 5, 2) := by decide +kernel
theorem dX3_lowestRow_39 : decode cX3_lowestRow 39 = .ok (.istore 4, 2) := by decide +kernel
theorem dX3_lowestRow_41 : decode cX3_lowestRow 41 = .ok (.iinc 5 (-1), 3) := by decide +kernel
theorem dX3_lowestRow_44 : decode cX3_lowestRow 44 = .ok (.goto (-36), 3) := by decide +kernel
theorem dX3_lowestRow_47 : decode cX3_lowestRow 47 = .ok (.iload 4, 2) := by decide +kernel
theorem dX3_lowestRow_49 : decode cX3_lowestRow 49 = .ok (.ireturn, 1) := by decide +kernel
