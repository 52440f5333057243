theorem dX4_init_0 : decode cX4_init 0 = .ok (.aload_n 0, 1) := by decide +kernel
theorem dX4_init_1 : decode cX4_init 1 = .ok (.invokespecial 3, 3) := by decide +kernel
theorem dX4_init_4 : decode cX4_init 4 = .ok (.aload_n 0, 1) := by decide +kernel
theorem dX4_init_5 : decode cX4_init 5 = .ok (.bipush 64, 2) := by decide +kernel
theorem dX4_init_7 : decode cX4_init 7 = .ok (.newarray .int, 2) := by decide +kernel
theorem dX4_init_9 : decode cX4_init 9 = .ok (.putfield 11, 3) := by decide +kernel
theorem dX4_init_12 : decode cX4_init 12 = .ok (.aload_n 0, 1) := by decide +kernel
theorem dX4_init_13 : decode cX4_init 13 = .ok (.aload_n 1, 1) := by decide +kernel
theorem dX4_init_14 : decode cX4_init 14 = .ok (.putfield 15, 3) := by decide +kernel
theorem dX4_init_17 : decode cX4_init 17 = .ok (.return_, 1) := by decide +kernel
set_option maxRecDepth 20000 in
theorem ggX4_follow_X4_fall : GoodIn wsX4_follow wsX4_fall := goodIn_r _ [13, 6, 14, 15, 16, 17, 18, 19, 20, 21, 22, 23, 24, 25, 26, 27, 28, 29, 30, 31, 32, 12, 33, 4, 34, 35, 36, 37, 38, 39, 8, 2, 40, 41, 42, 43, 7, 5, 1, 44, 77, 78, 79, 80, 81, 82, 83, 84, 85, 86, 87, 88, 89, 90, 91, 92] (by decide +kernel) (by decide +kernel)
set_option maxRecDepth 20000 in
theorem gX4_follow_X4_fall : GoodIn wsX4_follow (wsV RX4 34 RX4 yX4_fall wsX4_fall) := goodIn_app (goodIn_of _ (by decide +kernel)) ggX4_follow_X4_fall
set_option maxRecDepth 20000 in
theorem ggX4_follow_X4_run : GoodIn wsX4_follow wsX4_run := goodIn_r _ [48, 7, 3, 6, 5, 49, 15, 50, 51, 52, 36, 37, 38, 12, 39, 8, 2, 24, 25, 26, 27, 28, 29, 30, 31, 32, 33, 4, 34, 35, 40, 41, 42, 43, 1, 44, 14, 16, 17, 18, 19, 20, 21, 22, 23, 53, 54, 55, 56, 57, 58, 59, 60, 61, 62, 77, 78, 79, 80, 81, 82, 83, 84, 85, 86, 87, 88, 89, 90, 91, 92] (by decide +kernel) (by decide +kernel)
set_option maxRecDepth 20000 in
theorem gX4_follow_X4_run : GoodIn wsX4_follow (wsV RX4 41 RX4 yX4_run wsX4_run) := goodIn_app (goodIn_of _ (by decide +kernel)) ggX4_follow_X4_run
set_option maxRecDepth 20000 in
theorem ggX4_follow_X4_columnBeside : GoodIn wsX4_follow wsX4_columnBeside := goodIn_r _ [66, 6, 67, 7, 51, 15, 52, 77, 78, 79, 80, 81, 82, 83, 84, 85, 86, 87, 88, 89, 90, 91, 92] (by decide +kernel) (by decide +kernel)
set_option maxRecDepth 20000 in
theorem gX4_follow_X4_columnBeside : GoodIn wsX4_follow (wsV RX4 45 RX4 yX4_columnBeside wsX4_columnBeside) := goodIn_app (goodIn_of _ (by decide +kernel)) ggX4_follow_X4_columnBeside
set_option maxRecDepth 20000 in
theorem ggX4_follow_X3_hasColumn : GoodIn wsX4_follow wsX3_hasColumn := goodIn_r _ [71, 72, 73, 15, 74, 86, 87, 88, 89, 90, 91, 92] (by decide +kernel) (by decide +kernel)
set_option maxRecDepth 20000 in
theorem gX4_follow_X3_hasColumn : GoodIn wsX4_follow (wsV RX4 49 RX3 yX3_hasColumn wsX3_hasColumn) := goodIn_app (goodIn_of _ (by decide +kernel)) ggX4_follow_X3_hasColumn
set_option maxRecDepth 20000 in
theorem ggX4_follow_X7_rowOf : GoodIn wsX4_follow wsX7_rowOf := goodIn_r _ [50] (by decide +kernel) (by decide +kernel)
set_option maxRecDepth 20000 in
theorem gX4_follow_X7_rowOf_n58 : GoodIn wsX4_follow (wsX7_rowOf) := ggX4_follow_X7_rowOf
set_option maxRecDepth 20000 in
theorem ggX4_follow_X7_cellOf : GoodIn wsX4_follow wsX7_cellOf := goodIn_r _ [76] (by decide +kernel) (by decide +kernel)
set_option maxRecDepth 20000 in
theorem gX4_follow_X7_cellOf_n62 : GoodIn wsX4_follow (wsX7_cellOf) := ggX4_follow_X7_cellOf
set_option maxRecDepth 20000 in
theorem ggX4_follow_X4_finish : GoodIn wsX4_follow wsX4_finish := goodIn_r _ [39, 8, 2, 77, 78, 79, 80, 81, 82, 83, 84, 85] (by decide +kernel) (by decide +kernel)
set_option maxRecDepth 20000 in
theorem gX4_follow_X4_finish : GoodIn wsX4_follow (wsV RX4 66 RX4 yX4_finish wsX4_finish) := goodIn_app (goodIn_of _ (by decide +kernel)) ggX4_follow_X4_finish
theorem dX4_follow_0 : decode cX4_follow 0 = .ok (.aload_n 0, 1) := by decide +kernel
theorem dX4_follow_1 : decode cX4_follow 1 = .ok (.iconst 0, 1) := by decide +kernel
theorem dX4_follow_2 : decode cX4_follow 2 = .ok (.putfield 19, 3) := by decide +kernel
theorem dX4_follow_5 : decode cX4_follow 5 = .ok (.aload_n 0, 1) := by decide +kernel
theorem dX4_follow_6 : decode cX4_follow 6 = .ok (.iconst 1, 1) := by decide +kernel
theorem dX4_follow_7 : decode cX4_follow 7 = .ok (.putfield 23, 3) := by decide +kernel
theorem dX4_follow_10 : decode cX4_follow 10 = .ok (.aload_n 0, 1) := by decide +kernel
theorem dX4_follow_11 : decode cX4_follow 11 = .ok (.bipush (-9), 2) := by decide +kernel
theorem dX4_follow_13 : decode cX4_follow 13 = .ok (.putfield 27, 3) := by decide +kernel
theorem dX4_follow_16 : decode cX4_follow 16 = .ok (.aload_n 0, 1) := by decide +kernel
theorem dX4_follow_17 : decode cX4_follow 17 = .ok (.lconst 0, 1) := by decide +kernel
theorem dX4_follow_18 : decode cX4_follow 18 = .ok (.putfield 30, 3) := by decide +kernel
theorem dX4_follow_21 : decode cX4_follow 21 = .ok (.aload_n 0, 1) := by decide +kernel
theorem dX4_follow_22 : decode cX4_follow 22 = .ok (.aload_n 1, 1) := by decide +kernel
theorem dX4_follow_23 : decode cX4_follow 23 = .ok (.iload_n 2, 1) := by decide +kernel
theorem dX4_follow_24 : decode cX4_follow 24 = .ok (.invokevirtual 34, 3) := by decide +kernel
theorem dX4_follow_27 : decode cX4_follow 27 = .ok (.iconst 0, 1) := by decide +kernel
theorem dX4_follow_28 : decode cX4_follow 28 = .ok (.istore_n 3, 1) := by decide +kernel
theorem dX4_follow_29 : decode cX4_follow 29 = .ok (.aload_n 0, 1) := by decide +kernel
theorem dX4_follow_30 : decode cX4_follow 30 = .ok (.getfield 23, 3) := by decide +kernel
theorem dX4_follow_33 : decode cX4_follow 33 = .ok (.ifCond .eq 74, 3) := by decide +kernel
theorem dX4_follow_36 : decode cX4_follow 36 = .ok (.iload_n 3, 1) := by decide +kernel
theorem dX4_follow_37 : decode cX4_follow 37 = .ok (.bipush 64, 2) := by decide +kernel
theorem dX4_follow_39 : decode cX4_follow 39 = .ok (.if_icmp .ge 68, 3) := by decide +kernel
theorem dX4_follow_42 : decode cX4_follow 42 = .ok (.aload_n 0, 1) := by decide +kernel
theorem dX4_follow_43 : decode cX4_follow 43 = .ok (.getfield 38, 3) := by decide +kernel
theorem dX4_follow_46 : decode cX4_follow 46 = .ok (.bipush 99, 2) := by decide +kernel
theorem dX4_follow_48 : decode cX4_follow 48 = .ok (.if_icmp .eq 11, 3) := by decide +kernel
theorem dX4_follow_51 : decode cX4_follow 51 = .ok (.aload_n 0, 1) := by decide +kernel
theorem dX4_follow_52 : decode cX4_follow 52 = .ok (.aload_n 1, 1) := by decide +kernel
theorem dX4_follow_53 : decode cX4_follow 53 = .ok (.invokevirtual 41, 3) := by decide +kernel
theorem dX4_follow_56 : decode cX4_follow 56 = .ok (.goto 45, 3) := by decide +kernel
theorem dX4_follow_59 : decode cX4_follow 59 = .ok (.aload_n 0, 1) := by decide +kernel
theorem dX4_follow_60 : decode cX4_follow 60 = .ok (.getfield 15, 3) := by decide +kernel
theorem dX4_follow_63 : decode cX4_follow 63 = .ok (.aload_n 0, 1) := by decide +kernel
theorem dX4_follow_64 : decode cX4_follow 64 = .ok (.invokevirtual 45, 3) := by decide +kernel
theorem dX4_follow_67 : decode cX4_follow 67 = .ok (.invokevirtual 49, 3) := by decide +kernel
theorem dX4_follow_70 : decode cX4_follow 70 = .ok (.ifCond .eq 25, 3) := by decide +kernel
theorem dX4_follow_73 : decode cX4_follow 73 = .ok (.aload_n 0, 1) := by decide +kernel
theorem dX4_follow_74 : decode cX4_follow 74 = .ok (.aload_n 1, 1) := by decide +kernel
theorem dX4_follow_75 : decode cX4_follow 75 = .ok (.aload_n 0, 1) := by decide +kernel
theorem dX4_follow_76 : decode cX4_follow 76 = .ok (.invokevirtual 45, 3) := by decide +kernel
theorem dX4_follow_79 : decode cX4_follow 79 = .ok (.aload_n 0, 1) := by decide +kernel
theorem dX4_follow_80 : decode cX4_follow 80 = .ok (.getfield 55, 3) := by decide +kernel
theorem dX4_follow_83 : decode cX4_follow 83 = .ok (.invokestatic 58, 3) := by decide +kernel
theorem dX4_follow_86 : decode cX4_follow 86 = .ok (.invokestatic 62, 3) := by decide +kernel
theorem dX4_follow_89 : decode cX4_follow 89 = .ok (.invokevirtual 34, 3) := by decide +kernel
theorem dX4_follow_92 : decode cX4_follow 92 = .ok (.goto 9, 3) := by decide +kernel
theorem dX4_follow_95 : decode cX4_follow 95 = .ok (.aload_n 0, 1) := by decide +kernel
theorem dX4_follow_96 : decode cX4_follow 96 = .ok (.bipush 100, 2) := by decide +kernel
theorem dX4_follow_98 : decode cX4_follow 98 = .ok (.invokevirtual 66, 3) := by decide +kernel
theorem dX4_follow_101 : decode cX4_follow 101 = .ok (.iinc 3 1, 3) := by decide +kernel
theorem dX4_follow_104 : decode cX4_follow 104 = .ok (.goto (-75), 3) := by decide +kernel
theorem dX4_follow_107 : decode cX4_follow 107 = .ok (.aload_n 0, 1) := by decide +kernel
theorem dX4_follow_108 : decode cX4_follow 108 = .ok (.getfield 70, 3) := by decide +kernel
theorem dX4_follow_111 : decode cX4_follow 111 = .ok (.ireturn, 1) := by decide +kernel
set_option maxRecDepth 20000 in
theorem ggX4_fall_X7_greatest : GoodIn wsX4_fall wsX7_greatest := goodIn_r _ [4, 5, 6, 7, 8, 9, 10, 11] (by decide +kernel) (by decide +kernel)
set_option maxRecDepth 20000 in
theorem gX4_fall_X7_greatest_n73 : GoodIn wsX4_fall (wsX7_greatest) := ggX4_fall_X7_greatest
set_option maxRecDepth 20000 in
theorem ggX4_fall_X3_isOpening : GoodIn wsX4_fall wsX3_isOpening := goodIn_r _ [16, 17, 49, 50, 51, 52, 53, 54, 55] (by decide +kernel) (by decide +kernel)
set_option maxRecDepth 20000 in
theorem gX4_fall_X3_isOpening : GoodIn wsX4_fall (wsV RX4 77 RX3 yX3_isOpening wsX3_isOpening) := goodIn_app (goodIn_of _ (by decide +kernel)) ggX4_fall_X3_isOpening
set_option maxRecDepth 20000 in
theorem ggX4_fall_X4_meetOpening : GoodIn wsX4_fall wsX4_meetOpening := goodIn_r _ [22, 23, 24, 3, 25, 26, 27, 28, 21, 29, 30, 31, 32, 33, 34, 35, 36, 37, 38, 39, 40, 41, 42, 43, 44, 45, 46, 47, 48] (by decide +kernel) (by decide +kernel)
set_option maxRecDepth 20000 in
theorem gX4_fall_X4_meetOpening : GoodIn wsX4_fall (wsV RX4 80 RX4 yX4_meetOpening wsX4_meetOpening) := goodIn_app (goodIn_of _ (by decide +kernel)) ggX4_fall_X4_meetOpening
set_option maxRecDepth 20000 in
theorem ggX4_fall_X4_finish : GoodIn wsX4_fall wsX4_finish := goodIn_r _ [29, 30, 31, 40, 41, 42, 43, 44, 45, 46, 47, 48] (by decide +kernel) (by decide +kernel)
set_option maxRecDepth 20000 in
theorem gX4_fall_X4_finish : GoodIn wsX4_fall (wsV RX4 66 RX4 yX4_finish wsX4_finish) := goodIn_app (goodIn_of _ (by decide +kernel)) ggX4_fall_X4_finish
set_option maxRecDepth 20000 in
theorem ggX4_fall_X4_pass : GoodIn wsX4_fall wsX4_pass := goodIn_r _ [35, 36, 37, 38, 39, 40, 41, 42, 43, 44, 45, 46, 47, 48] (by decide +kernel) (by decide +kernel)
set_option maxRecDepth 20000 in
theorem gX4_fall_X4_pass : GoodIn wsX4_fall (wsV RX4 83 RX4 yX4_pass wsX4_pass) := goodIn_app (goodIn_of _ (by decide +kernel)) ggX4_fall_X4_pass
theorem dX4_fall_0 : decode cX4_fall 0 = .ok (.aload_n 1, 1) := by decide +kernel
theorem dX4_fall_1 : decode cX4_fall 1 = .ok (.iload_n 2, 1) := by decide +kernel
theorem dX4_fall_2 : decode cX4_fall 2 = .ok (.laload, 1) := by decide +kernel
theorem dX4_fall_3 : decode cX4_fall 3 = .ok (.invokestatic 73, 3) := by decide +kernel
theorem dX4_fall_6 : decode cX4_fall 6 = .ok (.istore_n 3, 1) := by decide +kernel
theorem dX4_fall_7 : decode cX4_fall 7 = .ok (.aload_n 0, 1) := by decide +kernel
theorem dX4_fall_8 : decode cX4_fall 8 = .ok (.getfield 15, 3) := by decide +kernel
theorem dX4_fall_11 : decode cX4_fall 11 = .ok (.iload_n 2, 1) := by decide +kernel
theorem dX4_fall_12 : decode cX4_fall 12 = .ok (.invokevirtual 77, 3) := by decide +kernel
theorem dX4_fall_15 : decode cX4_fall 15 = .ok (.ifCond .eq 11, 3) := by decide +kernel
theorem dX4_fall_18 : decode cX4_fall 18 = .ok (.aload_n 0, 1) := by decide +kernel
theorem dX4_fall_19 : decode cX4_fall 19 = .ok (.iload_n 2, 1) := by decide +kernel
theorem dX4_fall_20 : decode cX4_fall 20 = .ok (.invokevirtual 80, 3) := by decide +kernel
theorem dX4_fall_23 : decode cX4_fall 23 = .ok (.goto 23, 3) := by decide +kernel
theorem dX4_fall_26 : decode cX4_fall 26 = .ok (.iload_n 3, 1) := by decide +kernel
theorem dX4_fall_27 : decode cX4_fall 27 = .ok (.bipush (-9), 2) := by decide +kernel
theorem dX4_fall_29 : decode cX4_fall 29 = .ok (.if_icmp .ne 11, 3) := by decide +kernel
theorem dX4_fall_32 : decode cX4_fall 32 = .ok (.aload_n 0, 1) := by decide +kernel
theorem dX4_fall_33 : decode cX4_fall 33 = .ok (.iload_n 2, 1) := by decide +kernel
theorem dX4_fall_34 : decode cX4_fall 34 = .ok (.invokevirtual 66, 3) := by decide +kernel
theorem dX4_fall_37 : decode cX4_fall 37 = .ok (.goto 9, 3) := by decide +kernel
theorem dX4_fall_40 : decode cX4_fall 40 = .ok (.aload_n 0, 1) := by decide +kernel
theorem dX4_fall_41 : decode cX4_fall 41 = .ok (.iload_n 2, 1) := by decide +kernel
theorem dX4_fall_42 : decode cX4_fall 42 = .ok (.iload_n 3, 1) := by decide +kernel
theorem dX4_fall_43 : decode cX4_fall 43 = .ok (.invokevirtual 83, 3) := by decide +kernel
theorem dX4_fall_46 : decode cX4_fall 46 = .ok (.return_, 1) := by decide +kernel
set_option maxRecDepth 20000 in
theorem ggX4_columnBeside_X7_columnOf : GoodIn wsX4_columnBeside wsX7_columnOf := goodIn_r _ [6] (by decide +kernel) (by decide +kernel)
set_option maxRecDepth 20000 in
theorem gX4_columnBeside_X7_columnOf_n90 : GoodIn wsX4_columnBeside (wsX7_columnOf) := ggX4_columnBeside_X7_columnOf
theorem dX4_columnBeside_0 : decode cX4_columnBeside 0 = .ok (.aload_n 0, 1) := by decide +kernel
theorem dX4_columnBeside_1 : decode cX4_columnBeside 1 = .ok (.getfield 15, 3) := by decide +kernel
theorem dX4_columnBeside_4 : decode cX4_columnBeside 4 = .ok (.getfield 87, 3) := by decide +kernel
theorem dX4_columnBeside_7 : decode cX4_columnBeside 7 = .ok (.aload_n 0, 1) := by decide +kernel
theorem dX4_columnBeside_8 : decode cX4_columnBeside 8 = .ok (.getfield 55, 3) := by decide +kernel
theorem dX4_columnBeside_11 : decode cX4_columnBeside 11 = .ok (.iaload, 1) := by decide +kernel
theorem dX4_columnBeside_12 : decode cX4_columnBeside 12 = .ok (.iconst 1, 1) := by decide +kernel
theorem dX4_columnBeside_13 : decode cX4_columnBeside 13 = .ok (.if_icmp .ne 15, 3) := by decide +kernel
theorem dX4_columnBeside_16 : decode cX4_columnBeside 16 = .ok (.aload_n 0, 1) := by decide +kernel
theorem dX4_columnBeside_17 : decode cX4_columnBeside 17 = .ok (.getfield 55, 3) := by decide +kernel
theorem dX4_columnBeside_20 : decode cX4_columnBeside 20 = .ok (.invokestatic 90, 3) := by decide +kernel
theorem dX4_columnBeside_23 : decode cX4_columnBeside 23 = .ok (.iconst 1, 1) := by decide +kernel
theorem dX4_columnBeside_24 : decode cX4_columnBeside 24 = .ok (.isub, 1) := by decide +kernel
theorem dX4_columnBeside_25 : decode cX4_columnBeside 25 = .ok (.goto 12, 3) := by decide +kernel
theorem dX4_columnBeside_28 : decode cX4_columnBeside 28 = .ok (.aload_n 0, 1) := by decide +kernel
theorem dX4_columnBeside_29 : decode cX4_columnBeside 29 = .ok (.getfield 55, 3) := by decide +kernel
theorem dX4_columnBeside_32 : decode cX4_columnBeside 32 = .ok (.invokestatic 90, 3) := by decide +kernel
theorem dX4_columnBeside_35 : decode cX4_columnBeside 35 = .ok (.iconst 1, 1) := by decide +kernel
theorem dX4_columnBeside_36 : decode cX4_columnBeside 36 = .ok (.iadd, 1) := by decide +kernel
theorem dX4_columnBeside_37 : decode cX4_columnBeside 37 = .ok (.ireturn, 1) := by decide +kernel
set_option maxRecDepth 20000 in
theorem ggX4_run_X7_rowOf : GoodIn wsX4_run wsX7_rowOf := goodIn_r _ [7] (by decide +kernel) (by decide +kernel)
set_option maxRecDepth 20000 in
theorem gX4_run_X7_rowOf_n58 : GoodIn wsX4_run (wsX7_rowOf) := ggX4_run_X7_rowOf
set_option maxRecDepth 20000 in
theorem ggX4_run_X7_columnOf : GoodIn wsX4_run wsX7_columnOf := goodIn_r _ [9] (by decide +kernel) (by decide +kernel)
set_option maxRecDepth 20000 in
theorem gX4_run_X7_columnOf_n90 : GoodIn wsX4_run (wsX7_columnOf) := ggX4_run_X7_columnOf
set_option maxRecDepth 20000 in
theorem ggX4_run_X4_finish : GoodIn wsX4_run wsX4_finish := goodIn_r _ [14, 15, 16, 55, 56, 57, 58, 59, 60, 61, 62, 63] (by decide +kernel) (by decide +kernel)
set_option maxRecDepth 20000 in
theorem gX4_run_X4_finish : GoodIn wsX4_run (wsV RX4 66 RX4 yX4_finish wsX4_finish) := goodIn_app (goodIn_of _ (by decide +kernel)) ggX4_run_X4_finish
set_option maxRecDepth 20000 in
theorem ggX4_run_X3_isOpening : GoodIn wsX4_run wsX3_isOpening := goodIn_r _ [21, 22, 64, 65, 66, 67, 68, 69, 70] (by decide +kernel) (by decide +kernel)
set_option maxRecDepth 20000 in
theorem gX4_run_X3_isOpening : GoodIn wsX4_run (wsV RX4 77 RX3 yX3_isOpening wsX3_isOpening) := goodIn_app (goodIn_of _ (by decide +kernel)) ggX4_run_X3_isOpening
set_option maxRecDepth 20000 in
theorem ggX4_run_X4_meetOpening : GoodIn wsX4_run wsX4_meetOpening := goodIn_r _ [26, 27, 28, 6, 29, 10, 11, 12, 13, 14, 15, 16, 30, 31, 32, 33, 1, 4, 34, 35, 55, 56, 57, 58, 59, 60, 61, 62, 63] (by decide +kernel) (by decide +kernel)
set_option maxRecDepth 20000 in
theorem gX4_run_X4_meetOpening : GoodIn wsX4_run (wsV RX4 80 RX4 yX4_meetOpening wsX4_meetOpening) := goodIn_app (goodIn_of _ (by decide +kernel)) ggX4_run_X4_meetOpening
set_option maxRecDepth 20000 in
theorem ggX4_run_X7_isIn : GoodIn wsX4_run wsX7_isIn := goodIn_r _ [29] (by decide +kernel) (by decide +kernel)
set_option maxRecDepth 20000 in
theorem gX4_run_X7_isIn_n93 : GoodIn wsX4_run (wsX7_isIn) := ggX4_run_X7_isIn
set_option maxRecDepth 20000 in
theorem ggX4_run_X4_pass : GoodIn wsX4_run wsX4_pass := goodIn_r _ [33, 1, 4, 34, 35, 55, 56, 57, 58, 59, 60, 61, 62, 63] (by decide +kernel) (by decide +kernel)
set_option maxRecDepth 20000 in
theorem gX4_run_X4_pass : GoodIn wsX4_run (wsV RX4 83 RX4 yX4_pass wsX4_pass) := goodIn_app (goodIn_of _ (by decide +kernel)) ggX4_run_X4_pass
set_option maxRecDepth 20000 in
theorem ggX4_run_X7_greatest : GoodIn wsX4_run wsX7_greatest := goodIn_r _ [37, 38, 39, 40, 41, 42, 43, 44] (by decide +kernel) (by decide +kernel)
set_option maxRecDepth 20000 in
theorem gX4_run_X7_greatest_n73 : GoodIn wsX4_run (wsX7_greatest) := ggX4_run_X7_greatest
set_option maxRecDepth 20000 in
theorem ggX4_run_X4_isLapped : GoodIn wsX4_run wsX4_isLapped := goodIn_r _ [48, 3, 49, 50, 51, 52, 20, 53, 54, 5, 6, 7, 17, 18, 19, 21, 22, 28, 29, 55, 56, 57, 58, 59, 60, 61, 62, 63, 64, 65, 66, 67, 68, 69, 70] (by decide +kernel) (by decide +kernel)
set_option maxRecDepth 20000 in
theorem gX4_run_X4_isLapped : GoodIn wsX4_run (wsV RX4 97 RX4 yX4_isLapped wsX4_isLapped) := goodIn_app (goodIn_of _ (by decide +kernel)) ggX4_run_X4_isLapped
theorem dX4_run_0 : decode cX4_run 0 = .ok (.aload_n 0, 1) := by decide +kernel
theorem dX4_run_1 : decode cX4_run 1 = .ok (.getfield 55, 3) := by decide +kernel
theorem dX4_run_4 : decode cX4_run 4 = .ok (.invokestatic 58, 3) := by decide +kernel
theorem dX4_run_7 : decode cX4_run 7 = .ok (.ifCond .ne 21, 3) := by decide +kernel
theorem dX4_run_10 : decode cX4_run 10 = .ok (.aload_n 0, 1) := by decide +kernel
theorem dX4_run_11 : decode cX4_run 11 = .ok (.aload_n 0, 1) := by decide +kernel
theorem dX4_run_12 : decode cX4_run 12 = .ok (.getfield 55, 3) := by decide +kernel
theorem dX4_run_15 : decode cX4_run 15 = .ok (.invokestatic 90, 3) := by decide +kernel
theorem dX4_run_18 : decode cX4_run 18 = .ok (.putfield 27, 3) := by decide +kernel
theorem dX4_run_21 : decode cX4_run 21 = .ok (.aload_n 0, 1) := by decide +kernel
theorem dX4_run_22 : decode cX4_run 22 = .ok (.bipush 100, 2) := by decide +kernel
theorem dX4_run_24 : decode cX4_run 24 = .ok (.invokevirtual 66, 3) := by decide +kernel
theorem dX4_run_27 : decode cX4_run 27 = .ok (.return_, 1) := by decide +kernel
theorem dX4_run_28 : decode cX4_run 28 = .ok (.aload_n 0, 1) := by decide +kernel
theorem dX4_run_29 : decode cX4_run 29 = .ok (.getfield 55, 3) := by decide +kernel
theorem dX4_run_32 : decode cX4_run 32 = .ok (.iconst 1, 1) := by decide +kernel
theorem dX4_run_33 : decode cX4_run 33 = .ok (.isub, 1) := by decide +kernel
theorem dX4_run_34 : decode cX4_run 34 = .ok (.istore_n 2, 1) := by decide +kernel
theorem dX4_run_35 : decode cX4_run 35 = .ok (.aload_n 0, 1) := by decide +kernel
theorem dX4_run_36 : decode cX4_run 36 = .ok (.getfield 15, 3) := by decide +kernel
theorem dX4_run_39 : decode cX4_run 39 = .ok (.iload_n 2, 1) := by decide +kernel
theorem dX4_run_40 : decode cX4_run 40 = .ok (.invokevirtual 77, 3) := by decide +kernel
theorem dX4_run_43 : decode cX4_run 43 = .ok (.ifCond .eq 9, 3) := by decide +kernel
theorem dX4_run_46 : decode cX4_run 46 = .ok (.aload_n 0, 1) := by decide +kernel
theorem dX4_run_47 : decode cX4_run 47 = .ok (.iload_n 2, 1) := by decide +kernel
theorem dX4_run_48 : decode cX4_run 48 = .ok (.invokevirtual 80, 3) := by decide +kernel
theorem dX4_run_51 : decode cX4_run 51 = .ok (.return_, 1) := by decide +kernel
theorem dX4_run_52 : decode cX4_run 52 = .ok (.aload_n 1, 1) := by decide +kernel
theorem dX4_run_53 : decode cX4_run 53 = .ok (.iload_n 2, 1) := by decide +kernel
theorem dX4_run_54 : decode cX4_run 54 = .ok (.laload, 1) := by decide +kernel
theorem dX4_run_55 : decode cX4_run 55 = .ok (.aload_n 0, 1) := by decide +kernel
theorem dX4_run_56 : decode cX4_run 56 = .ok (.getfield 38, 3) := by decide +kernel
theorem dX4_run_59 : decode cX4_run 59 = .ok (.invokestatic 93, 3) := by decide +kernel
theorem dX4_run_62 : decode cX4_run 62 = .ok (.ifCond .eq 13, 3) := by decide +kernel
theorem dX4_run_65 : decode cX4_run 65 = .ok (.aload_n 0, 1) := by decide +kernel
theorem dX4_run_66 : decode cX4_run 66 = .ok (.iload_n 2, 1) := by decide +kernel
theorem dX4_run_67 : decode cX4_run 67 = .ok (.aload_n 0, 1) := by decide +kernel
theorem dX4_run_68 : decode cX4_run 68 = .ok (.getfield 38, 3) := by decide +kernel
theorem dX4_run_71 : decode cX4_run 71 = .ok (.invokevirtual 83, 3) := by decide +kernel
theorem dX4_run_74 : decode cX4_run 74 = .ok (.return_, 1) := by decide +kernel
theorem dX4_run_75 : decode cX4_run 75 = .ok (.aload_n 1, 1) := by decide +kernel
theorem dX4_run_76 : decode cX4_run 76 = .ok (.iload_n 2, 1) := by decide +kernel
theorem dX4_run_77 : decode cX4_run 77 = .ok (.laload, 1) := by decide +kernel
theorem dX4_run_78 : decode cX4_run 78 = .ok (.lconst 1, 1) := by decide +kernel
theorem dX4_run_79 : decode cX4_run 79 = .ok (.aload_n 0, 1) := by decide +kernel
theorem dX4_run_80 : decode cX4_run 80 = .ok (.getfield 38, 3) := by decide +kernel
theorem dX4_run_83 : decode cX4_run 83 = .ok (.lshl, 1) := by decide +kernel
theorem dX4_run_84 : decode cX4_run 84 = .ok (.lconst 1, 1) := by decide +kernel
theorem dX4_run_85 : decode cX4_run 85 = .ok (.lsub, 1) := by decide +kernel
theorem dX4_run_86 : decode cX4_run 86 = .ok (.land, 1) := by decide +kernel
theorem dX4_run_87 : decode cX4_run 87 = .ok (.invokestatic 73, 3) := by decide +kernel
theorem dX4_run_90 : decode cX4_run 90 = .ok (.istore_n 3, 1) := by decide +kernel
theorem dX4_run_91 : decode cX4_run 91 = .ok (.iload_n 3, 1) := by decide +kernel
theorem dX4_run_92 : decode cX4_run 92 = .ok (.bipush (-9), 2) := by decide +kernel
theorem dX4_run_94 : decode cX4_run 94 = .ok (.if_icmp .eq 13, 3) := by decide +kernel
theorem dX4_run_97 : decode cX4_run 97 = .ok (.aload_n 0, 1) := by decide +kernel
theorem dX4_run_98 : decode cX4_run 98 = .ok (.aload_n 1, 1) := by decide +kernel
theorem dX4_run_99 : decode cX4_run 99 = .ok (.iload_n 2, 1) := by decide +kernel
theorem dX4_run_100 : decode cX4_run 100 = .ok (.iload_n 3, 1) := by decide +kernel
theorem dX4_run_101 : decode cX4_run 101 = .ok (.invokevirtual 97, 3) := by decide +kernel
theorem dX4_run_104 : decode cX4_run 104 = .ok (.ifCond .ne 11, 3) := by decide +kernel
theorem dX4_run_107 : decode cX4_run 107 = .ok (.aload_n 0, 1) := by decide +kernel
theorem dX4_run_108 : decode cX4_run 108 = .ok (.iload_n 2, 1) := by decide +kernel
theorem dX4_run_109 : decode cX4_run 109 = .ok (.invokevirtual 66, 3) := by decide +kernel
theorem dX4_run_112 : decode cX4_run 112 = .ok (.goto 9, 3) := by decide +kernel
theorem dX4_run_115 : decode cX4_run 115 = .ok (.aload_n 0, 1) := by decide +kernel
theorem dX4_run_116 : decode cX4_run 116 = .ok (.iload_n 2, 1) := by decide +kernel
theorem dX4_run_117 : decode cX4_run 117 = .ok (.iload_n 3, 1) := by decide +kernel
theorem dX4_run_118 : decode cX4_run 118 = .ok (.invokevirtual 83, 3) := by decide +kernel
theorem dX4_run_121 : decode cX4_run 121 = .ok (.return_, 1) := by decide +kernel
set_option maxRecDepth 20000 in
theorem ggX4_isLapped_X3_lap : GoodIn wsX4_isLapped wsX3_lap := goodIn_r _ [7, 8, 28, 29, 30, 31, 32, 33, 34] (by decide +kernel) (by decide +kernel)
set_option maxRecDepth 20000 in
theorem gX4_isLapped_X3_lap : GoodIn wsX4_isLapped (wsV RX4 101 RX3 yX3_lap wsX3_lap) := goodIn_app (goodIn_of _ (by decide +kernel)) ggX4_isLapped_X3_lap
set_option maxRecDepth 20000 in
theorem ggX4_isLapped_X7_rowOf : GoodIn wsX4_isLapped wsX7_rowOf := goodIn_r _ [11] (by decide +kernel) (by decide +kernel)
set_option maxRecDepth 20000 in
theorem gX4_isLapped_X7_rowOf_n58 : GoodIn wsX4_isLapped (wsX7_rowOf) := ggX4_isLapped_X7_rowOf
set_option maxRecDepth 20000 in
theorem ggX4_isLapped_X3_isOpening : GoodIn wsX4_isLapped wsX3_isOpening := goodIn_r _ [15, 16, 28, 29, 30, 31, 32, 33, 34] (by decide +kernel) (by decide +kernel)
set_option maxRecDepth 20000 in
theorem gX4_isLapped_X3_isOpening : GoodIn wsX4_isLapped (wsV RX4 77 RX3 yX3_isOpening wsX3_isOpening) := goodIn_app (goodIn_of _ (by decide +kernel)) ggX4_isLapped_X3_isOpening
set_option maxRecDepth 20000 in
theorem ggX4_isLapped_X7_isIn : GoodIn wsX4_isLapped wsX7_isIn := goodIn_r _ [18] (by decide +kernel) (by decide +kernel)
set_option maxRecDepth 20000 in
theorem gX4_isLapped_X7_isIn_n93 : GoodIn wsX4_isLapped (wsX7_isIn) := ggX4_isLapped_X7_isIn
theorem dX4_isLapped_0 : decode cX4_isLapped 0 = .ok (.iconst 1, 1) := by decide +kernel
theorem dX4_isLapped_1 : decode cX4_isLapped 1 = .ok (.istore 4, 2) := by decide +kernel
theorem dX4_isLapped_3 : decode cX4_isLapped 3 = .ok (.iload 4, 2) := by decide +kernel
theorem dX4_isLapped_5 : decode cX4_isLapped 5 = .ok (.aload_n 0, 1) := by decide +kernel
theorem dX4_isLapped_6 : decode cX4_isLapped 6 = .ok (.getfield 15, 3) := by decide +kernel
theorem dX4_isLapped_9 : decode cX4_isLapped 9 = .ok (.invokevirtual 101, 3) := by decide +kernel
theorem dX4_isLapped_12 : decode cX4_isLapped 12 = .ok (.if_icmp .gt 55, 3) := by decide +kernel
theorem dX4_isLapped_15 : decode cX4_isLapped 15 = .ok (.iload_n 2, 1) := by decide +kernel
theorem dX4_isLapped_16 : decode cX4_isLapped 16 = .ok (.iload 4, 2) := by decide +kernel
theorem dX4_isLapped_18 : decode cX4_isLapped 18 = .ok (.iadd, 1) := by decide +kernel
theorem dX4_isLapped_19 : decode cX4_isLapped 19 = .ok (.istore 5, 2) := by decide +kernel
theorem dX4_isLapped_21 : decode cX4_isLapped 21 = .ok (.iload 5, 2) := by decide +kernel
theorem dX4_isLapped_23 : decode cX4_isLapped 23 = .ok (.invokestatic 58, 3) := by decide +kernel
theorem dX4_isLapped_26 : decode cX4_isLapped 26 = .ok (.aload_n 0, 1) := by decide +kernel
theorem dX4_isLapped_27 : decode cX4_isLapped 27 = .ok (.getfield 15, 3) := by decide +kernel
theorem dX4_isLapped_30 : decode cX4_isLapped 30 = .ok (.getfield 104, 3) := by decide +kernel
theorem dX4_isLapped_33 : decode cX4_isLapped 33 = .ok (.if_icmp .ge 28, 3) := by decide +kernel
theorem dX4_isLapped_36 : decode cX4_isLapped 36 = .ok (.aload_n 0, 1) := by decide +kernel
theorem dX4_isLapped_37 : decode cX4_isLapped 37 = .ok (.getfield 15, 3) := by decide +kernel
theorem dX4_isLapped_40 : decode cX4_isLapped 40 = .ok (.iload 5, 2) := by decide +kernel
theorem dX4_isLapped_42 : decode cX4_isLapped 42 = .ok (.invokevirtual 77, 3) := by decide +kernel
theorem dX4_isLapped_45 : decode cX4_isLapped 45 = .ok (.ifCond .ne 16, 3) := by decide +kernel
theorem dX4_isLapped_48 : decode cX4_isLapped 48 = .ok (.aload_n 1, 1) := by decide +kernel
theorem dX4_isLapped_49 : decode cX4_isLapped 49 = .ok (.iload 5, 2) := by decide +kernel
theorem dX4_isLapped_51 : decode cX4_isLapped 51 = .ok (.laload, 1) := by decide +kernel
theorem dX4_isLapped_52 : decode cX4_isLapped 52 = .ok (.iload_n 3, 1) := by decide +kernel
theorem dX4_isLapped_53 : decode cX4_isLapped 53 = .ok (.invokestatic 93, 3) := by decide +kernel
theorem dX4_isLapped_56 : decode cX4_isLapped 56 = .ok (.ifCond .ne 5, 3) := by decide +kernel
theorem dX4_isLapped_59 : decode cX4_isLapped 59 = .ok (.iconst 0, 1) := by decide +kernel
theorem dX4_isLapped_60 : decode cX4_isLapped 60 = .ok (.ireturn, 1) := by decide +kernel
theorem dX4_isLapped_61 : decode cX4_isLapped 61 = .ok (.iinc 4 1, 3) := by decide +kernel
theorem dX4_isLapped_64 : decode cX4_isLapped 64 = .ok (.goto (-61), 3) := by decide +kernel
theorem dX4_isLapped_67 : decode cX4_isLapped 67 = .ok (.iconst 1, 1) := by decide +kernel
theorem dX4_isLapped_68 : decode cX4_isLapped 68 = .ok (.ireturn, 1) := by decide +kernel
set_option maxRecDepth 20000 in
theorem ggX4_meetOpening_X7_isIn : GoodIn wsX4_meetOpening wsX7_isIn := goodIn_r _ [4] (by decide +kernel) (by decide +kernel)
set_option maxRecDepth 20000 in
theorem gX4_meetOpening_X7_isIn_n93 : GoodIn wsX4_meetOpening (wsX7_isIn) := ggX4_meetOpening_X7_isIn
set_option maxRecDepth 20000 in
theorem ggX4_meetOpening_X4_finish : GoodIn wsX4_meetOpening wsX4_finish := goodIn_r _ [9, 10, 11, 20, 21, 22, 23, 24, 25, 26, 27, 28] (by decide +kernel) (by decide +kernel)
set_option maxRecDepth 20000 in
theorem gX4_meetOpening_X4_finish : GoodIn wsX4_meetOpening (wsV RX4 66 RX4 yX4_finish wsX4_finish) := goodIn_app (goodIn_of _ (by decide +kernel)) ggX4_meetOpening_X4_finish
set_option maxRecDepth 20000 in
theorem ggX4_meetOpening_X4_pass : GoodIn wsX4_meetOpening wsX4_pass := goodIn_r _ [15, 16, 17, 18, 19, 20, 21, 22, 23, 24, 25, 26, 27, 28] (by decide +kernel) (by decide +kernel)
set_option maxRecDepth 20000 in
theorem gX4_meetOpening_X4_pass : GoodIn wsX4_meetOpening (wsV RX4 83 RX4 yX4_pass wsX4_pass) := goodIn_app (goodIn_of _ (by decide +kernel)) ggX4_meetOpening_X4_pass
theorem dX4_meetOpening_0 : decode cX4_meetOpening 0 = .ok (.aload_n 0, 1) := by decide +kernel
theorem dX4_meetOpening_1 : decode cX4_meetOpening 1 = .ok (.getfield 30, 3) := by decide +kernel
theorem dX4_meetOpening_4 : decode cX4_meetOpening 4 = .ok (.iload_n 1, 1) := by decide +kernel
theorem dX4_meetOpening_5 : decode cX4_meetOpening 5 = .ok (.invokestatic 93, 3) := by decide +kernel
theorem dX4_meetOpening_8 : decode cX4_meetOpening 8 = .ok (.ifCond .eq 9, 3) := by decide +kernel
theorem dX4_meetOpening_11 : decode cX4_meetOpening 11 = .ok (.aload_n 0, 1) := by decide +kernel
theorem dX4_meetOpening_12 : decode cX4_meetOpening 12 = .ok (.iload_n 1, 1) := by decide +kernel
theorem dX4_meetOpening_13 : decode cX4_meetOpening 13 = .ok (.invokevirtual 66, 3) := by decide +kernel
theorem dX4_meetOpening_16 : decode cX4_meetOpening 16 = .ok (.return_, 1) := by decide +kernel
theorem dX4_meetOpening_17 : decode cX4_meetOpening 17 = .ok (.aload_n 0, 1) := by decide +kernel
theorem dX4_meetOpening_18 : decode cX4_meetOpening 18 = .ok (.dup, 1) := by decide +kernel
theorem dX4_meetOpening_19 : decode cX4_meetOpening 19 = .ok (.getfield 30, 3) := by decide +kernel
theorem dX4_meetOpening_22 : decode cX4_meetOpening 22 = .ok (.lconst 1, 1) := by decide +kernel
theorem dX4_meetOpening_23 : decode cX4_meetOpening 23 = .ok (.iload_n 1, 1) := by decide +kernel
theorem dX4_meetOpening_24 : decode cX4_meetOpening 24 = .ok (.lshl, 1) := by decide +kernel
theorem dX4_meetOpening_25 : decode cX4_meetOpening 25 = .ok (.lor, 1) := by decide +kernel
theorem dX4_meetOpening_26 : decode cX4_meetOpening 26 = .ok (.putfield 30, 3) := by decide +kernel
theorem dX4_meetOpening_29 : decode cX4_meetOpening 29 = .ok (.aload_n 0, 1) := by decide +kernel
theorem dX4_meetOpening_30 : decode cX4_meetOpening 30 = .ok (.iload_n 1, 1) := by decide +kernel
theorem dX4_meetOpening_31 : decode cX4_meetOpening 31 = .ok (.bipush 99, 2) := by decide +kernel
theorem dX4_meetOpening_33 : decode cX4_meetOpening 33 = .ok (.invokevirtual 83, 3) := by decide +kernel
theorem dX4_meetOpening_36 : decode cX4_meetOpening 36 = .ok (.return_, 1) := by decide +kernel
theorem dX4_pass_0 : decode cX4_pass 0 = .ok (.aload_n 0, 1) := by decide +kernel
theorem dX4_pass_1 : decode cX4_pass 1 = .ok (.iload_n 1, 1) := by decide +kernel
theorem dX4_pass_2 : decode cX4_pass 2 = .ok (.putfield 55, 3) := by decide +kernel
theorem dX4_pass_5 : decode cX4_pass 5 = .ok (.aload_n 0, 1) := by decide +kernel
theorem dX4_pass_6 : decode cX4_pass 6 = .ok (.iload_n 2, 1) := by decide +kernel
theorem dX4_pass_7 : decode cX4_pass 7 = .ok (.putfield 38, 3) := by decide +kernel
theorem dX4_pass_10 : decode cX4_pass 10 = .ok (.aload_n 0, 1) := by decide +kernel
theorem dX4_pass_11 : decode cX4_pass 11 = .ok (.getfield 19, 3) := by decide +kernel
theorem dX4_pass_14 : decode cX4_pass 14 = .ok (.bipush 64, 2) := by decide +kernel
theorem dX4_pass_16 : decode cX4_pass 16 = .ok (.if_icmp .ge 25, 3) := by decide +kernel
theorem dX4_pass_19 : decode cX4_pass 19 = .ok (.aload_n 0, 1) := by decide +kernel
theorem dX4_pass_20 : decode cX4_pass 20 = .ok (.getfield 11, 3) := by decide +kernel
theorem dX4_pass_23 : decode cX4_pass 23 = .ok (.aload_n 0, 1) := by decide +kernel
theorem dX4_pass_24 : decode cX4_pass 24 = .ok (.dup, 1) := by decide +kernel
theorem dX4_pass_25 : decode cX4_pass 25 = .ok (.getfield 19, 3) := by decide +kernel
theorem dX4_pass_28 : decode cX4_pass 28 = .ok (.dup_x1, 1) := by decide +kernel
theorem dX4_pass_29 : decode cX4_pass 29 = .ok (.iconst 1, 1) := by decide +kernel
theorem dX4_pass_30 : decode cX4_pass 30 = .ok (.iadd, 1) := by decide +kernel
theorem dX4_pass_31 : decode cX4_pass 31 = .ok (.putfield 19, 3) := by decide +kernel
theorem dX4_pass_34 : decode cX4_pass 34 = .ok (.bipush 100, 2) := by decide +kernel
theorem dX4_pass_36 : decode cX4_pass 36 = .ok (.iload_n 2, 1) := by decide +kernel
theorem dX4_pass_37 : decode cX4_pass 37 = .ok (.imul, 1) := by decide +kernel
theorem dX4_pass_38 : decode cX4_pass 38 = .ok (.iload_n 1, 1) := by decide +kernel
theorem dX4_pass_39 : decode cX4_pass 39 = .ok (.iadd, 1) := by decide +kernel
theorem dX4_pass_40 : decode cX4_pass 40 = .ok (.iastore, 1) := by decide +kernel
theorem dX4_pass_41 : decode cX4_pass 41 = .ok (.return_, 1) := by decide +kernel
theorem dX4_finish_0 : decode cX4_finish 0 = .ok (.aload_n 0, 1) := by decide +kernel
theorem dX4_finish_1 : decode cX4_finish 1 = .ok (.iload_n 1, 1) := by decide +kernel
theorem dX4_finish_2 : decode cX4_finish 2 = .ok (.putfield 70, 3) := by decide +kernel
theorem dX4_finish_5 : decode cX4_finish 5 = .ok (.aload_n 0, 1) := by decide +kernel
theorem dX4_finish_6 : decode cX4_finish 6 = .ok (.iconst 0, 1) := by decide +kernel
theorem dX4_finish_7 : decode cX4_finish 7 = .ok (.putfield 23, 3) := by decide +kernel
theorem dX4_finish_10 : decode cX4_finish 10 = .ok (.return_, 1) := by decide +kernel
set_option maxRecDepth 20000 in
theorem ggX4_countIn_X4_follow : GoodIn wsX4_countIn wsX4_follow := goodIn_r _ [8, 9, 10, 11, 12, 13, 1, 14, 15, 16, 17, 18, 7, 19, 20, 21, 22, 23, 24, 25, 26, 27, 28, 29, 30, 31, 32, 33, 34, 35, 36, 37, 38, 39, 40, 41, 42, 43, 44, 45, 46, 47, 48, 49, 50, 51, 52, 53, 54, 55, 56, 57, 58, 59, 60, 61, 62, 63, 64, 65, 66, 67, 68, 69, 70, 71, 72, 73, 74, 75, 76, 77, 78, 79, 80, 81, 82, 83, 84, 85, 86, 87, 88, 89, 90, 91, 92, 93, 94, 95, 96, 97, 98] (by decide +kernel) (by decide +kernel)
set_option maxRecDepth 20000 in
theorem gX4_countIn_X4_follow : GoodIn wsX4_countIn (wsV RX4 113 RX4 yX4_follow wsX4_follow) := goodIn_app (goodIn_of _ (by decide +kernel)) ggX4_countIn_X4_follow
theorem dX4_countIn_0 : decode cX4_countIn 0 = .ok (.iconst 0, 1) := by decide +kernel
theorem dX4_countIn_1 : decode cX4_countIn 1 = .ok (.istore_n 3, 1) := by decide +kernel
theorem dX4_countIn_2 : decode cX4_countIn 2 = .ok (.iconst 0, 1) := by decide +kernel
theorem dX4_countIn_3 : decode cX4_countIn 3 = .ok (.istore 4, 2) := by decide +kernel
theorem dX4_countIn_5 : decode cX4_countIn 5 = .ok (.iload 4, 2) := by decide +kernel
theorem dX4_countIn_7 : decode cX4_countIn 7 = .ok (.aload_n 0, 1) := by decide +kernel
theorem dX4_countIn_8 : decode cX4_countIn 8 = .ok (.getfield 15, 3) := by decide +kernel
theorem dX4_countIn_11 : decode cX4_countIn 11 = .ok (.getfield 107, 3) := by decide +kernel
theorem dX4_countIn_14 : decode cX4_countIn 14 = .ok (.if_icmp .ge 31, 3) := by decide +kernel
theorem dX4_countIn_17 : decode cX4_countIn 17 = .ok (.aload_n 0, 1) := by decide +kernel
theorem dX4_countIn_18 : decode cX4_countIn 18 = .ok (.aload_n 1, 1) := by decide +kernel
theorem dX4_countIn_19 : decode cX4_countIn 19 = .ok (.aload_n 0, 1) := by decide +kernel
theorem dX4_countIn_20 : decode cX4_countIn 20 = .ok (.getfield 15, 3) := by decide +kernel
theorem dX4_countIn_23 : decode cX4_countIn 23 = .ok (.getfield 110, 3) := by decide +kernel
theorem dX4_countIn_26 : decode cX4_countIn 26 = .ok (.iload 4, 2) := by decide +kernel
theorem dX4_countIn_28 : decode cX4_countIn 28 = .ok (.iaload, 1) := by decide +kernel
theorem dX4_countIn_29 : decode cX4_countIn 29 = .ok (.invokevirtual 113, 3) := by decide +kernel
theorem dX4_countIn_32 : decode cX4_countIn 32 = .ok (.iload_n 2, 1) := by decide +kernel
theorem dX4_countIn_33 : decode cX4_countIn 33 = .ok (.if_icmp .ne 6, 3) := by decide +kernel
theorem dX4_countIn_36 : decode cX4_countIn 36 = .ok (.iinc 3 1, 3) := by decide +kernel
theorem dX4_countIn_39 : decode cX4_countIn 39 = .ok (.iinc 4 1, 3) := by decide +kernel
theorem dX4_countIn_42 : decode cX4_countIn 42 = .ok (.goto (-37), 3) := by decide +kernel
theorem dX4_countIn_45 : decode cX4_countIn 45 = .ok (.iload_n 3, 1) := by decide +kernel
theorem dX4_countIn_46 : decode cX4_countIn 46 = .ok (.ireturn, 1) := by decide +kernel
set_option maxRecDepth 20000 in
theorem ggX4_countOff_X4_follow : GoodIn wsX4_countOff wsX4_follow := goodIn_r _ [9, 10, 11, 4, 12, 13, 1, 14, 15, 16, 17, 18, 8, 19, 20, 21, 22, 23, 24, 25, 26, 27, 28, 29, 30, 31, 32, 33, 34, 35, 36, 37, 38, 39, 40, 41, 42, 43, 44, 45, 46, 47, 48, 49, 50, 51, 52, 53, 54, 55, 56, 57, 58, 59, 60, 61, 62, 63, 64, 65, 66, 67, 68, 69, 70, 71, 72, 73, 74, 75, 76, 77, 78, 79, 80, 81, 82, 83, 84, 85, 86, 87, 88, 89, 90, 91, 92, 93, 94, 95, 96, 97, 98] (by decide +kernel) (by decide +kernel)
set_option maxRecDepth 20000 in
theorem gX4_countOff_X4_follow : GoodIn wsX4_countOff (wsV RX4 113 RX4 yX4_follow wsX4_follow) := goodIn_app (goodIn_of _ (by decide +kernel)) ggX4_countOff_X4_follow
theorem dX4_countOff_0 : decode cX4_countOff 0 = .ok (.iconst 0, 1) := by decide +kernel
theorem dX4_countOff_1 : decode cX4_countOff 1 = .ok (.istore_n 3, 1) := by decide +kernel
theorem dX4_countOff_2 : decode cX4_countOff 2 = .ok (.iconst 0, 1) := by decide +kernel
theorem dX4_countOff_3 : decode cX4_countOff 3 = .ok (.istore 4, 2) := by decide +kernel
theorem dX4_countOff_5 : decode cX4_countOff 5 = .ok (.iload 4, 2) := by decide +kernel
theorem dX4_countOff_7 : decode cX4_countOff 7 = .ok (.aload_n 0, 1) := by decide +kernel
theorem dX4_countOff_8 : decode cX4_countOff 8 = .ok (.getfield 15, 3) := by decide +kernel
theorem dX4_countOff_11 : decode cX4_countOff 11 = .ok (.getfield 107, 3) := by decide +kernel
theorem dX4_countOff_14 : decode cX4_countOff 14 = .ok (.if_icmp .ge 36, 3) := by decide +kernel
theorem dX4_countOff_17 : decode cX4_countOff 17 = .ok (.aload_n 0, 1) := by decide +kernel
theorem dX4_countOff_18 : decode cX4_countOff 18 = .ok (.aload_n 1, 1) := by decide +kernel
theorem dX4_countOff_19 : decode cX4_countOff 19 = .ok (.aload_n 0, 1) := by decide +kernel
theorem dX4_countOff_20 : decode cX4_countOff 20 = .ok (.getfield 15, 3) := by decide +kernel
theorem dX4_countOff_23 : decode cX4_countOff 23 = .ok (.getfield 110, 3) := by decide +kernel
theorem dX4_countOff_26 : decode cX4_countOff 26 = .ok (.iload 4, 2) := by decide +kernel
theorem dX4_countOff_28 : decode cX4_countOff 28 = .ok (.iaload, 1) := by decide +kernel
theorem dX4_countOff_29 : decode cX4_countOff 29 = .ok (.invokevirtual 113, 3) := by decide +kernel
theorem dX4_countOff_32 : decode cX4_countOff 32 = .ok (.pop, 1) := by decide +kernel
theorem dX4_countOff_33 : decode cX4_countOff 33 = .ok (.aload_n 0, 1) := by decide +kernel
theorem dX4_countOff_34 : decode cX4_countOff 34 = .ok (.getfield 27, 3) := by decide +kernel
theorem dX4_countOff_37 : decode cX4_countOff 37 = .ok (.iload_n 2, 1) := by decide +kernel
theorem dX4_countOff_38 : decode cX4_countOff 38 = .ok (.if_icmp .ne 6, 3) := by decide +kernel
theorem dX4_countOff_41 : decode cX4_countOff 41 = .ok (.iinc 3 1, 3) := by decide +kernel
theorem dX4_countOff_44 : decode cX4_countOff 44 = .ok (.iinc 4 1, 3) := by decide +kernel
theorem dX4_countOff_47 : decode cX4_countOff 47 = .ok (.goto (-42), 3) := by decide +kernel
theorem dX4_countOff_50 : decode cX4_countOff 50 = .ok (.iload_n 3, 1) := by decide +kernel
theorem dX4_countOff_51 : decode cX4_countOff 51 = .ok (.ireturn, 1) := by decide +kernel
set_option maxRecDepth 20000 in
theorem ggX4_firstWet_X4_follow : GoodIn wsX4_firstWet wsX4_follow := goodIn_r _ [12, 13, 14, 15, 16, 17, 1, 18, 19, 20, 21, 22, 11, 23, 24, 25, 26, 27, 28, 29, 30, 31, 32, 33, 34, 35, 36, 37, 38, 39, 40, 41, 42, 43, 44, 45, 46, 47, 48, 49, 50, 51, 52, 53, 54, 55, 56, 57, 58, 59, 60, 61, 62, 63, 64, 65, 66, 67, 68, 69, 70, 71, 72, 73, 74, 75, 76, 77, 78, 79, 80, 81, 82, 83, 84, 85, 86, 87, 88, 89, 90, 91, 92, 93, 94, 95, 96, 97, 98, 99, 100, 101, 102] (by decide +kernel) (by decide +kernel)
set_option maxRecDepth 20000 in
theorem gX4_firstWet_X4_follow : GoodIn wsX4_firstWet (wsV RX4 113 RX4 yX4_follow wsX4_follow) := goodIn_app (goodIn_of _ (by decide +kernel)) ggX4_firstWet_X4_follow
theorem dX4_firstWet_0 : decode cX4_firstWet 0 = .ok (.bipush 100, 2) := by decide +kernel
theorem dX4_firstWet_2 : decode cX4_firstWet 2 = .ok (.istore_n 2, 1) := by decide +kernel
theorem dX4_firstWet_3 : decode cX4_firstWet 3 = .ok (.iconst 0, 1) := by decide +kernel
theorem dX4_firstWet_4 : decode cX4_firstWet 4 = .ok (.istore_n 3, 1) := by decide +kernel
theorem dX4_firstWet_5 : decode cX4_firstWet 5 = .ok (.iload_n 3, 1) := by decide +kernel
theorem dX4_firstWet_6 : decode cX4_firstWet 6 = .ok (.aload_n 0, 1) := by decide +kernel
theorem dX4_firstWet_7 : decode cX4_firstWet 7 = .ok (.getfield 15, 3) := by decide +kernel
theorem dX4_firstWet_10 : decode cX4_firstWet 10 = .ok (.getfield 107, 3) := by decide +kernel
theorem dX4_firstWet_13 : decode cX4_firstWet 13 = .ok (.if_icmp .ge 28, 3) := by decide +kernel
theorem dX4_firstWet_16 : decode cX4_firstWet 16 = .ok (.iload_n 2, 1) := by decide +kernel
theorem dX4_firstWet_17 : decode cX4_firstWet 17 = .ok (.aload_n 0, 1) := by decide +kernel
theorem dX4_firstWet_18 : decode cX4_firstWet 18 = .ok (.aload_n 1, 1) := by decide +kernel
theorem dX4_firstWet_19 : decode cX4_firstWet 19 = .ok (.aload_n 0, 1) := by decide +kernel
theorem dX4_firstWet_20 : decode cX4_firstWet 20 = .ok (.getfield 15, 3) := by decide +kernel
theorem dX4_firstWet_23 : decode cX4_firstWet 23 = .ok (.getfield 110, 3) := by decide +kernel
theorem dX4_firstWet_26 : decode cX4_firstWet 26 = .ok (.iload_n 3, 1) := by decide +kernel
theorem dX4_firstWet_27 : decode cX4_firstWet 27 = .ok (.iaload, 1) := by decide +kernel
theorem dX4_firstWet_28 : decode cX4_firstWet 28 = .ok (.invokevirtual 113, 3) := by decide +kernel
theorem dX4_firstWet_31 : decode cX4_firstWet 31 = .ok (.invokestatic 117, 3) := by decide +kernel
theorem dX4_firstWet_34 : decode cX4_firstWet 34 = .ok (.istore_n 2, 1) := by decide +kernel
theorem dX4_firstWet_35 : decode cX4_firstWet 35 = .ok (.iinc 3 1, 3) := by decide +kernel
theorem dX4_firstWet_38 : decode cX4_firstWet 38 = .ok (.goto (-33), 3) := by decide +kernel
theorem dX4_firstWet_41 : decode cX4_firstWet 41 = .ok (.iload_n 2, 1) := by decide +kernel
theorem dX4_firstWet_42 : decode cX4_firstWet 42 = .ok (.bipush 100, 2) := by decide +kernel
theorem dX4_firstWet_44 : decode cX4_firstWet 44 = .ok (.if_icmp .ne 8, 3) := by decide +kernel
theorem dX4_firstWet_47 : decode cX4_firstWet 47 = .ok (.bipush (-9), 2) := by decide +kernel
theorem dX4_firstWet_49 : decode cX4_firstWet 49 = .ok (.goto 4, 3) := by decide +kernel
theorem dX4_firstWet_52 : decode cX4_firstWet 52 = .ok (.iload_n 2, 1) := by decide +kernel
theorem dX4_firstWet_53 : decode cX4_firstWet 53 = .ok (.ireturn, 1) := by decide +kernel
theorem dX5_init_0 : decode cX5_init 0 = .ok (.aload_n 0, 1) := by decide +kernel
theorem dX5_init_1 : decode cX5_init 1 = .ok (.invokespecial 3, 3) := by decide +kernel
theorem dX5_init_4 : decode cX5_init 4 = .ok (.aload_n 0, 1) := by decide +kernel
theorem dX5_init_5 : decode cX5_init 5 = .ok (.bipush 60, 2) := by decide +kernel
theorem dX5_init_7 : decode cX5_init 7 = .ok (.newarray .int, 2) := by decide +kernel
theorem dX5_init_9 : decode cX5_init 9 = .ok (.putfield 11, 3) := by decide +kernel
theorem dX5_init_12 : decode cX5_init 12 = .ok (.return_, 1) := by decide +kernel
theorem dX5_append_0 : decode cX5_append 0 = .ok (.aload_n 0, 1) := by decide +kernel
theorem dX5_append_1 : decode cX5_append 1 = .ok (.getfield 15, 3) := by decide +kernel
theorem dX5_append_4 : decode cX5_append 4 = .ok (.iload_n 1, 1) := by decide +kernel
theorem dX5_append_5 : decode cX5_append 5 = .ok (.iadd, 1) := by decide +kernel
theorem dX5_append_6 : decode cX5_append 6 = .ok (.bipush 60, 2) := by decide +kernel
theorem dX5_append_8 : decode cX5_append 8 = .ok (.if_icmp .le 6, 3) := by decide +kernel
theorem dX5_append_11 : decode cX5_append 11 = .ok (.bipush (-4), 2) := by decide +kernel
theorem dX5_append_13 : decode cX5_append 13 = .ok (.ireturn, 1) := by decide +kernel
theorem dX5_append_14 : decode cX5_append 14 = .ok (.iload_n 1, 1) := by decide +kernel
theorem dX5_append_15 : decode cX5_append 15 = .ok (.iconst 1, 1) := by decide +kernel
theorem dX5_append_16 : decode cX5_append 16 = .ok (.isub, 1) := by decide +kernel
theorem dX5_append_17 : decode cX5_append 17 = .ok (.istore 4, 2) := by decide +kernel
theorem dX5_append_19 : decode cX5_append 19 = .ok (.iload 4, 2) := by decide +kernel
theorem dX5_append_21 : decode cX5_append 21 = .ok (.ifCond .lt 37, 3) := by decide +kernel
theorem dX5_append_24 : decode cX5_append 24 = .ok (.aload_n 0, 1) := by decide +kernel
theorem dX5_append_25 : decode cX5_append 25 = .ok (.getfield 11, 3) := by decide +kernel
theorem dX5_append_28 : decode cX5_append 28 = .ok (.aload_n 0, 1) := by decide +kernel
theorem dX5_append_29 : decode cX5_append 29 = .ok (.dup, 1) := by decide +kernel
theorem dX5_append_30 : decode cX5_append 30 = .ok (.getfield 15, 3) := by decide +kernel
theorem dX5_append_33 : decode cX5_append 33 = .ok (.dup_x1, 1) := by decide +kernel
theorem dX5_append_34 : decode cX5_append 34 = .ok (.iconst 1, 1) := by decide +kernel
theorem dX5_append_35 : decode cX5_append 35 = .ok (.iadd, 1) := by decide +kernel
theorem dX5_append_36 : decode cX5_append 36 = .ok (.putfield 15, 3) := by decide +kernel
theorem dX5_append_39 : decode cX5_append 39 = .ok (.lload_n 2, 1) := by decide +kernel
theorem dX5_append_40 : decode cX5_append 40 = .ok (.bipush 8, 2) := by decide +kernel
theorem dX5_append_42 : decode cX5_append 42 = .ok (.iload 4, 2) := by decide +kernel
theorem dX5_append_44 : decode cX5_append 44 = .ok (.imul, 1) := by decide +kernel
theorem dX5_append_45 : decode cX5_append 45 = .ok (.lushr, 1) := by decide +kernel
theorem dX5_append_46 : decode cX5_append 46 = .ok (.ldc2_w 19, 3) := by decide +kernel
theorem dX5_append_49 : decode cX5_append 49 = .ok (.land, 1) := by decide +kernel
theorem dX5_append_50 : decode cX5_append 50 = .ok (.l2i, 1) := by decide +kernel
theorem dX5_append_51 : decode cX5_append 51 = .ok (.iastore, 1) := by decide +kernel
theorem dX5_append_52 : decode cX5_append 52 = .ok (.iinc 4 (-1), 3) := by decide +kernel
theorem dX5_append_55 : decode cX5_append 55 = .ok (.goto (-36), 3) := by decide +kernel
theorem dX5_append_58 : decode cX5_append 58 = .ok (.aload_n 0, 1) := by decide +kernel
theorem dX5_append_59 : decode cX5_append 59 = .ok (.getfield 15, 3) := by decide +kernel
theorem dX5_append_62 : decode cX5_append 62 = .ok (.ireturn, 1) := by decide +kernel
set_option maxRecDepth 20000 in
theorem ggX5_figure_X7_isWithin : GoodIn wsX5_figure wsX7_isWithin := goodIn_r _ [5] (by decide +kernel) (by decide +kernel)
set_option maxRecDepth 20000 in
theorem gX5_figure_X7_isWithin_n21 : GoodIn wsX5_figure (wsX7_isWithin) := ggX5_figure_X7_isWithin
theorem dX5_figure_0 : decode cX5_figure 0 = .ok (.iload_n 1, 1) := by decide +kernel
theorem dX5_figure_1 : decode cX5_figure 1 = .ok (.iconst 0, 1) := by decide +kernel
theorem dX5_figure_2 : decode cX5_figure 2 = .ok (.aload_n 0, 1) := by decide +kernel
theorem dX5_figure_3 : decode cX5_figure 3 = .ok (.getfield 15, 3) := by decide +kernel
theorem dX5_figure_6 : decode cX5_figure 6 = .ok (.iconst 1, 1) := by decide +kernel
theorem dX5_figure_7 : decode cX5_figure 7 = .ok (.isub, 1) := by decide +kernel
theorem dX5_figure_8 : decode cX5_figure 8 = .ok (.invokestatic 21, 3) := by decide +kernel
theorem dX5_figure_11 : decode cX5_figure 11 = .ok (.ifCond .eq 15, 3) := by decide +kernel
theorem dX5_figure_14 : decode cX5_figure 14 = .ok (.aload_n 0, 1) := by decide +kernel
theorem dX5_figure_15 : decode cX5_figure 15 = .ok (.getfield 11, 3) := by decide +kernel
theorem dX5_figure_18 : decode cX5_figure 18 = .ok (.iload_n 1, 1) := by decide +kernel
theorem dX5_figure_19 : decode cX5_figure 19 = .ok (.iaload, 1) := by decide +kernel
theorem dX5_figure_20 : decode cX5_figure 20 = .ok (.bipush 48, 2) := by decide +kernel
theorem dX5_figure_22 : decode cX5_figure 22 = .ok (.isub, 1) := by decide +kernel
theorem dX5_figure_23 : decode cX5_figure 23 = .ok (.goto 4, 3) := by decide +kernel
theorem dX5_figure_26 : decode cX5_figure 26 = .ok (.iconst 0, 1) := by decide +kernel
theorem dX5_figure_27 : decode cX5_figure 27 = .ok (.ireturn, 1) := by decide +kernel
theorem dX5_figuresOf_0 : decode cX5_figuresOf 0 = .ok (.iload_n 0, 1) := by decide +kernel
theorem dX5_figuresOf_1 : decode cX5_figuresOf 1 = .ok (.lookupswitch 41 #[(66, 35), (83, 39), (89, 37)], 35) := by decide +kernel
theorem dX5_figuresOf_36 : decode cX5_figuresOf 36 = .ok (.iconst 5, 1) := by decide +kernel
theorem dX5_figuresOf_37 : decode cX5_figuresOf 37 = .ok (.ireturn, 1) := by decide +kernel
theorem dX5_figuresOf_38 : decode cX5_figuresOf 38 = .ok (.iconst 1, 1) := by decide +kernel
theorem dX5_figuresOf_39 : decode cX5_figuresOf 39 = .ok (.ireturn, 1) := by decide +kernel
theorem dX5_figuresOf_40 : decode cX5_figuresOf 40 = .ok (.iconst 2, 1) := by decide +kernel
theorem dX5_figuresOf_41 : decode cX5_figuresOf 41 = .ok (.ireturn, 1) := by decide +kernel
theorem dX5_figuresOf_42 : decode cX5_figuresOf 42 = .ok (.iconst 0, 1) := by decide +kernel
theorem dX5_figuresOf_43 : decode cX5_figuresOf 43 = .ok (.ireturn, 1) := by decide +kernel
set_option maxRecDepth 20000 in
theorem ggX5_firstFault_X5_faultOfPart : GoodIn wsX5_firstFault wsX5_faultOfPart := goodIn_r _ [7, 2, 1, 8, 9, 6, 10, 11, 12, 13, 14, 15, 16, 17, 18, 19, 20, 21, 22, 23, 24, 25, 26, 27, 28, 29, 30, 31, 32, 33, 34, 35, 36, 37, 38, 39, 40, 41, 42, 43, 44, 45, 46, 47] (by decide +kernel) (by decide +kernel)
set_option maxRecDepth 20000 in
theorem gX5_firstFault_X5_faultOfPart : GoodIn wsX5_firstFault (wsV RX5 25 RX5 yX5_faultOfPart wsX5_faultOfPart) := goodIn_app (goodIn_of _ (by decide +kernel)) ggX5_firstFault_X5_faultOfPart
set_option maxRecDepth 20000 in
theorem ggX5_firstFault_X5_figuresOf : GoodIn wsX5_firstFault wsX5_figuresOf := goodIn_r _ [10] (by decide +kernel) (by decide +kernel)
set_option maxRecDepth 20000 in
theorem gX5_firstFault_X5_figuresOf : GoodIn wsX5_firstFault (va_wsS RX5 29 yX5_figuresOf wsX5_figuresOf) := goodIn_app (goodIn_of _ (by decide +kernel)) ggX5_firstFault_X5_figuresOf
theorem dX5_firstFault_0 : decode cX5_firstFault 0 = .ok (.iconst 0, 1) := by decide +kernel
theorem dX5_firstFault_1 : decode cX5_firstFault 1 = .ok (.istore_n 2, 1) := by decide +kernel
theorem dX5_firstFault_2 : decode cX5_firstFault 2 = .ok (.iload_n 2, 1) := by decide +kernel
theorem dX5_firstFault_3 : decode cX5_firstFault 3 = .ok (.aload_n 0, 1) := by decide +kernel
theorem dX5_firstFault_4 : decode cX5_firstFault 4 = .ok (.getfield 15, 3) := by decide +kernel
theorem dX5_firstFault_7 : decode cX5_firstFault 7 = .ok (.if_icmp .ge 35, 3) := by decide +kernel
theorem dX5_firstFault_10 : decode cX5_firstFault 10 = .ok (.aload_n 0, 1) := by decide +kernel
theorem dX5_firstFault_11 : decode cX5_firstFault 11 = .ok (.aload_n 1, 1) := by decide +kernel
theorem dX5_firstFault_12 : decode cX5_firstFault 12 = .ok (.iload_n 2, 1) := by decide +kernel
theorem dX5_firstFault_13 : decode cX5_firstFault 13 = .ok (.invokevirtual 25, 3) := by decide +kernel
theorem dX5_firstFault_16 : decode cX5_firstFault 16 = .ok (.istore_n 3, 1) := by decide +kernel
theorem dX5_firstFault_17 : decode cX5_firstFault 17 = .ok (.iload_n 3, 1) := by decide +kernel
theorem dX5_firstFault_18 : decode cX5_firstFault 18 = .ok (.bipush (-9), 2) := by decide +kernel
theorem dX5_firstFault_20 : decode cX5_firstFault 20 = .ok (.if_icmp .eq 5, 3) := by decide +kernel
theorem dX5_firstFault_23 : decode cX5_firstFault 23 = .ok (.iload_n 3, 1) := by decide +kernel
theorem dX5_firstFault_24 : decode cX5_firstFault 24 = .ok (.ireturn, 1) := by decide +kernel
theorem dX5_firstFault_25 : decode cX5_firstFault 25 = .ok (.iload_n 2, 1) := by decide +kernel
theorem dX5_firstFault_26 : decode cX5_firstFault 26 = .ok (.iconst 1, 1) := by decide +kernel
theorem dX5_firstFault_27 : decode cX5_firstFault 27 = .ok (.aload_n 0, 1) := by decide +kernel
theorem dX5_firstFault_28 : decode cX5_firstFault 28 = .ok (.getfield 11, 3) := by decide +kernel
theorem dX5_firstFault_31 : decode cX5_firstFault 31 = .ok (.iload_n 2, 1) := by decide +kernel
theorem dX5_firstFault_32 : decode cX5_firstFault 32 = .ok (.iaload, 1) := by decide +kernel
theorem dX5_firstFault_33 : decode cX5_firstFault 33 = .ok (.invokestatic 29, 3) := by decide +kernel
theorem dX5_firstFault_36 : decode cX5_firstFault 36 = .ok (.iadd, 1) := by decide +kernel
theorem dX5_firstFault_37 : decode cX5_firstFault 37 = .ok (.iadd, 1) := by decide +kernel
theorem dX5_firstFault_38 : decode cX5_firstFault 38 = .ok (.istore_n 2, 1) := by decide +kernel
theorem dX5_firstFault_39 : decode cX5_firstFault 39 = .ok (.goto (-37), 3) := by decide +kernel
theorem dX5_firstFault_42 : decode cX5_firstFault 42 = .ok (.bipush (-9), 2) := by decide +kernel
theorem dX5_firstFault_44 : decode cX5_firstFault 44 = .ok (.ireturn, 1) := by decide +kernel
set_option maxRecDepth 20000 in
theorem ggX5_faultOfPart_X5_figuresOf : GoodIn wsX5_faultOfPart wsX5_figuresOf := goodIn_r _ [6] (by decide +kernel) (by decide +kernel)
set_option maxRecDepth 20000 in
theorem gX5_faultOfPart_X5_figuresOf : GoodIn wsX5_faultOfPart (va_wsS RX5 29 yX5_figuresOf wsX5_figuresOf) := goodIn_app (goodIn_of _ (by decide +kernel)) ggX5_faultOfPart_X5_figuresOf
set_option maxRecDepth 20000 in
theorem ggX5_faultOfPart_X5_figure : GoodIn wsX5_faultOfPart wsX5_figure := goodIn_r _ [10, 2, 1, 11, 12, 13, 35, 36] (by decide +kernel) (by decide +kernel)
set_option maxRecDepth 20000 in
theorem gX5_faultOfPart_X5_figure : GoodIn wsX5_faultOfPart (wsV RX5 33 RX5 yX5_figure wsX5_figure) := goodIn_app (goodIn_of _ (by decide +kernel)) ggX5_faultOfPart_X5_figure
set_option maxRecDepth 20000 in
theorem ggX5_faultOfPart_X5_fits : GoodIn wsX5_faultOfPart wsX5_fits := goodIn_r _ [16, 11, 12, 13, 17, 18, 19, 20, 21, 22, 23, 24, 25, 26, 27, 28, 29, 30, 31, 32, 33, 34, 37, 38, 39, 40, 41, 42, 43] (by decide +kernel) (by decide +kernel)
set_option maxRecDepth 20000 in
theorem gX5_faultOfPart_X5_fits : GoodIn wsX5_faultOfPart (va_wsS RX5 36 yX5_fits wsX5_fits) := goodIn_app (goodIn_of _ (by decide +kernel)) ggX5_faultOfPart_X5_fits
theorem dX5_faultOfPart_0 : decode cX5_faultOfPart 0 = .ok (.aload_n 0, 1) := by decide +kernel
theorem dX5_faultOfPart_1 : decode cX5_faultOfPart 1 = .ok (.getfield 11, 3) := by decide +kernel
theorem dX5_faultOfPart_4 : decode cX5_faultOfPart 4 = .ok (.iload_n 2, 1) := by decide +kernel
theorem dX5_faultOfPart_5 : decode cX5_faultOfPart 5 = .ok (.iaload, 1) := by decide +kernel
theorem dX5_faultOfPart_6 : decode cX5_faultOfPart 6 = .ok (.invokestatic 29, 3) := by decide +kernel
theorem dX5_faultOfPart_9 : decode cX5_faultOfPart 9 = .ok (.istore_n 3, 1) := by decide +kernel
theorem dX5_faultOfPart_10 : decode cX5_faultOfPart 10 = .ok (.iload_n 3, 1) := by decide +kernel
theorem dX5_faultOfPart_11 : decode cX5_faultOfPart 11 = .ok (.ifCond .ne 5, 3) := by decide +kernel
theorem dX5_faultOfPart_14 : decode cX5_faultOfPart 14 = .ok (.iload_n 2, 1) := by decide +kernel
theorem dX5_faultOfPart_15 : decode cX5_faultOfPart 15 = .ok (.ireturn, 1) := by decide +kernel
theorem dX5_faultOfPart_16 : decode cX5_faultOfPart 16 = .ok (.iconst 1, 1) := by decide +kernel
theorem dX5_faultOfPart_17 : decode cX5_faultOfPart 17 = .ok (.istore 4, 2) := by decide +kernel
theorem dX5_faultOfPart_19 : decode cX5_faultOfPart 19 = .ok (.iload 4, 2) := by decide +kernel
theorem dX5_faultOfPart_21 : decode cX5_faultOfPart 21 = .ok (.iload_n 3, 1) := by decide +kernel
theorem dX5_faultOfPart_22 : decode cX5_faultOfPart 22 = .ok (.if_icmp .gt 53, 3) := by decide +kernel
theorem dX5_faultOfPart_25 : decode cX5_faultOfPart 25 = .ok (.iload_n 2, 1) := by decide +kernel
theorem dX5_faultOfPart_26 : decode cX5_faultOfPart 26 = .ok (.iload 4, 2) := by decide +kernel
theorem dX5_faultOfPart_28 : decode cX5_faultOfPart 28 = .ok (.iadd, 1) := by decide +kernel
theorem dX5_faultOfPart_29 : decode cX5_faultOfPart 29 = .ok (.aload_n 0, 1) := by decide +kernel
theorem dX5_faultOfPart_30 : decode cX5_faultOfPart 30 = .ok (.getfield 15, 3) := by decide +kernel
theorem dX5_faultOfPart_33 : decode cX5_faultOfPart 33 = .ok (.if_icmp .lt 8, 3) := by decide +kernel
theorem dX5_faultOfPart_36 : decode cX5_faultOfPart 36 = .ok (.aload_n 0, 1) := by decide +kernel
theorem dX5_faultOfPart_37 : decode cX5_faultOfPart 37 = .ok (.getfield 15, 3) := by decide +kernel
theorem dX5_faultOfPart_40 : decode cX5_faultOfPart 40 = .ok (.ireturn, 1) := by decide +kernel
theorem dX5_faultOfPart_41 : decode cX5_faultOfPart 41 = .ok (.aload_n 1, 1) := by decide +kernel
theorem dX5_faultOfPart_42 : decode cX5_faultOfPart 42 = .ok (.aload_n 0, 1) := by decide +kernel
theorem dX5_faultOfPart_43 : decode cX5_faultOfPart 43 = .ok (.getfield 11, 3) := by decide +kernel
theorem dX5_faultOfPart_46 : decode cX5_faultOfPart 46 = .ok (.iload_n 2, 1) := by decide +kernel
theorem dX5_faultOfPart_47 : decode cX5_faultOfPart 47 = .ok (.iaload, 1) := by decide +kernel
theorem dX5_faultOfPart_48 : decode cX5_faultOfPart 48 = .ok (.iload 4, 2) := by decide +kernel
theorem dX5_faultOfPart_50 : decode cX5_faultOfPart 50 = .ok (.aload_n 0, 1) := by decide +kernel
theorem dX5_faultOfPart_51 : decode cX5_faultOfPart 51 = .ok (.iload_n 2, 1) := by decide +kernel
theorem dX5_faultOfPart_52 : decode cX5_faultOfPart 52 = .ok (.iload 4, 2) := by decide +kernel
theorem dX5_faultOfPart_54 : decode cX5_faultOfPart 54 = .ok (.iadd, 1) := by decide +kernel
theorem dX5_faultOfPart_55 : decode cX5_faultOfPart 55 = .ok (.invokevirtual 33, 3) := by decide +kernel
theorem dX5_faultOfPart_58 : decode cX5_faultOfPart 58 = .ok (.invokestatic 36, 3) := by decide +kernel
theorem dX5_faultOfPart_61 : decode cX5_faultOfPart 61 = .ok (.ifCond .ne 8, 3) := by decide +kernel
theorem dX5_faultOfPart_64 : decode cX5_faultOfPart 64 = .ok (.iload_n 2, 1) := by decide +kernel
theorem dX5_faultOfPart_65 : decode cX5_faultOfPart 65 = .ok (.iload 4, 2) := by decide +kernel
theorem dX5_faultOfPart_67 : decode cX5_faultOfPart 67 = .ok (.iadd, 1) := by decide +kernel
theorem dX5_faultOfPart_68 : decode cX5_faultOfPart 68 = .ok (.ireturn, 1) := by decide +kernel
theorem dX5_faultOfPart_69 : decode cX5_faultOfPart 69 = .ok (.iinc 4 1, 3) := by decide +kernel
theorem dX5_faultOfPart_72 : decode cX5_faultOfPart 72 = .ok (.goto (-53), 3) := by decide +kernel
theorem dX5_faultOfPart_75 : decode cX5_faultOfPart 75 = .ok (.bipush (-9), 2) := by decide +kernel
theorem dX5_faultOfPart_77 : decode cX5_faultOfPart 77 = .ok (.ireturn, 1) := by decide +kernel
set_option maxRecDepth 20000 in
theorem ggX5_fits_X7_isWithin : GoodIn wsX5_fits wsX7_isWithin := goodIn_r _ [3] (by decide +kernel) (by decide +kernel)
set_option maxRecDepth 20000 in
theorem gX5_fits_X7_isWithin_n21 : GoodIn wsX5_fits (wsX7_isWithin) := ggX5_fits_X7_isWithin
set_option maxRecDepth 20000 in
theorem ggX5_fits_X3_hasColumn : GoodIn wsX5_fits wsX3_hasColumn := goodIn_r _ [8, 9, 1, 2, 3, 22, 23, 24, 25, 26, 27, 28] (by decide +kernel) (by decide +kernel)
set_option maxRecDepth 20000 in
theorem gX5_fits_X3_hasColumn : GoodIn wsX5_fits (wsV RX5 40 RX3 yX3_hasColumn wsX3_hasColumn) := goodIn_app (goodIn_of _ (by decide +kernel)) ggX5_fits_X3_hasColumn
set_option maxRecDepth 20000 in
theorem ggX5_fits_X3_hasRow : GoodIn wsX5_fits wsX3_hasRow := goodIn_r _ [13, 14, 1, 2, 3, 22, 23, 24, 25, 26, 27, 28] (by decide +kernel) (by decide +kernel)
set_option maxRecDepth 20000 in
theorem gX5_fits_X3_hasRow : GoodIn wsX5_fits (wsV RX5 46 RX3 yX3_hasRow wsX3_hasRow) := goodIn_app (goodIn_of _ (by decide +kernel)) ggX5_fits_X3_hasRow
set_option maxRecDepth 20000 in
theorem ggX5_fits_X7_isLength : GoodIn wsX5_fits wsX7_isLength := goodIn_r _ [16, 17, 1, 2, 3] (by decide +kernel) (by decide +kernel)
set_option maxRecDepth 20000 in
theorem gX5_fits_X7_isLength_n49 : GoodIn wsX5_fits (wsX7_isLength) := ggX5_fits_X7_isLength
set_option maxRecDepth 20000 in
theorem ggX5_fits_X7_isSort : GoodIn wsX5_fits wsX7_isSort := goodIn_r _ [19, 17, 1, 2, 3] (by decide +kernel) (by decide +kernel)
set_option maxRecDepth 20000 in
theorem gX5_fits_X7_isSort_n52 : GoodIn wsX5_fits (wsX7_isSort) := ggX5_fits_X7_isSort
set_option maxRecDepth 20000 in
theorem ggX5_fits_X7_isThickness : GoodIn wsX5_fits wsX7_isThickness := goodIn_r _ [21, 17, 1, 2, 3] (by decide +kernel) (by decide +kernel)
set_option maxRecDepth 20000 in
theorem gX5_fits_X7_isThickness_n55 : GoodIn wsX5_fits (wsX7_isThickness) := ggX5_fits_X7_isThickness
theorem dX5_fits_0 : decode cX5_fits 0 = .ok (.iload_n 1, 1) := by decide +kernel
theorem dX5_fits_1 : decode cX5_fits 1 = .ok (.bipush 89, 2) := by decide +kernel
theorem dX5_fits_3 : decode cX5_fits 3 = .ok (.if_icmp .eq 14, 3) := by decide +kernel
theorem dX5_fits_6 : decode cX5_fits 6 = .ok (.iload_n 1, 1) := by decide +kernel
theorem dX5_fits_7 : decode cX5_fits 7 = .ok (.bipush 83, 2) := by decide +kernel
theorem dX5_fits_9 : decode cX5_fits 9 = .ok (.if_icmp .ne 16, 3) := by decide +kernel
theorem dX5_fits_12 : decode cX5_fits 12 = .ok (.iload_n 2, 1) := by decide +kernel
theorem dX5_fits_13 : decode cX5_fits 13 = .ok (.iconst 2, 1) := by decide +kernel
theorem dX5_fits_14 : decode cX5_fits 14 = .ok (.if_icmp .ne 11, 3) := by decide +kernel
theorem dX5_fits_17 : decode cX5_fits 17 = .ok (.iload_n 3, 1) := by decide +kernel
theorem dX5_fits_18 : decode cX5_fits 18 = .ok (.iconst 1, 1) := by decide +kernel
theorem dX5_fits_19 : decode cX5_fits 19 = .ok (.bipush 9, 2) := by decide +kernel
theorem dX5_fits_21 : decode cX5_fits 21 = .ok (.invokestatic 21, 3) := by decide +kernel
theorem dX5_fits_24 : decode cX5_fits 24 = .ok (.ireturn, 1) := by decide +kernel
theorem dX5_fits_25 : decode cX5_fits 25 = .ok (.iload_n 2, 1) := by decide +kernel
theorem dX5_fits_26 : decode cX5_fits 26 = .ok (.tableswitch 52 1 4 #[30, 36, 42, 47], 30) := by decide +kernel
theorem dX5_fits_56 : decode cX5_fits 56 = .ok (.aload_n 0, 1) := by decide +kernel
theorem dX5_fits_57 : decode cX5_fits 57 = .ok (.iload_n 3, 1) := by decide +kernel
theorem dX5_fits_58 : decode cX5_fits 58 = .ok (.invokevirtual 40, 3) := by decide +kernel
theorem dX5_fits_61 : decode cX5_fits 61 = .ok (.ireturn, 1) := by decide +kernel
theorem dX5_fits_62 : decode cX5_fits 62 = .ok (.aload_n 0, 1) := by decide +kernel
theorem dX5_fits_63 : decode cX5_fits 63 = .ok (.iload_n 3, 1) := by decide +kernel
theorem dX5_fits_64 : decode cX5_fits 64 = .ok (.invokevirtual 46, 3) := by decide +kernel
theorem dX5_fits_67 : decode cX5_fits 67 = .ok (.ireturn, 1) := by decide +kernel
theorem dX5_fits_68 : decode cX5_fits 68 = .ok (.iload_n 3, 1) := by decide +kernel
theorem dX5_fits_69 : decode cX5_fits 69 = .ok (.invokestatic 49, 3) := by decide +kernel
theorem dX5_fits_72 : decode cX5_fits 72 = .ok (.ireturn, 1) := by decide +kernel
theorem dX5_fits_73 : decode cX5_fits 73 = .ok (.iload_n 3, 1) := by decide +kernel
theorem dX5_fits_74 : decode cX5_fits 74 = .ok (.invokestatic 52, 3) := by decide +kernel
theorem dX5_fits_77 : decode cX5_fits 77 = .ok (.ireturn, 1) := by decide +kernel
theorem dX5_fits_78 : decode cX5_fits 78 = .ok (.iload_n 3, 1) := by decide +kernel
theorem dX5_fits_79 : decode cX5_fits 79 = .ok (.invokestatic 55, 3) := by decide +kernel
theorem dX5_fits_82 : decode cX5_fits 82 = .ok (.ireturn, 1) := by decide +kernel
set_option maxRecDepth 20000 in
theorem ggX6_init_X1_init : GoodIn wsX6_init wsX1_init := goodIn_r _ [15, 16, 2, 3, 17, 18, 19, 20, 21, 22, 23, 4, 24, 25, 31, 32, 33, 34, 35, 36, 37, 38, 39, 40] (by decide +kernel) (by decide +kernel)
set_option maxRecDepth 20000 in
theorem gX6_init_X1_init : GoodIn wsX6_init (wsX1_init) := ggX6_init_X1_init
theorem dX6_init_0 : decode cX6_init 0 = .ok (.aload_n 0, 1) := by decide +kernel
theorem dX6_init_1 : decode cX6_init 1 = .ok (.invokespecial 3, 3) := by decide +kernel
theorem dX6_init_4 : decode cX6_init 4 = .ok (.aload_n 0, 1) := by decide +kernel
theorem dX6_init_5 : decode cX6_init 5 = .ok (.bipush 60, 2) := by decide +kernel
theorem dX6_init_7 : decode cX6_init 7 = .ok (.newarray .long, 2) := by decide +kernel
theorem dX6_init_9 : decode cX6_init 9 = .ok (.putfield 9, 3) := by decide +kernel
theorem dX6_init_12 : decode cX6_init 12 = .ok (.aload_n 0, 1) := by decide +kernel
theorem dX6_init_13 : decode cX6_init 13 = .ok (.bipush (-9), 2) := by decide +kernel
theorem dX6_init_15 : decode cX6_init 15 = .ok (.putfield 15, 3) := by decide +kernel
theorem dX6_init_18 : decode cX6_init 18 = .ok (.aload_n 0, 1) := by decide +kernel
theorem dX6_init_19 : decode cX6_init 19 = .ok (.aload_n 1, 1) := by decide +kernel
theorem dX6_init_20 : decode cX6_init 20 = .ok (.putfield 19, 3) := by decide +kernel
theorem dX6_init_23 : decode cX6_init 23 = .ok (.aload_n 0, 1) := by decide +kernel
theorem dX6_init_24 : decode cX6_init 24 = .ok (.aload_n 2, 1) := by decide +kernel
theorem dX6_init_25 : decode cX6_init 25 = .ok (.putfield 23, 3) := by decide +kernel
theorem dX6_init_28 : decode cX6_init 28 = .ok (.aload_n 0, 1) := by decide +kernel
theorem dX6_init_29 : decode cX6_init 29 = .ok (.new 27, 3) := by decide +kernel
theorem dX6_init_32 : decode cX6_init 32 = .ok (.dup, 1) := by decide +kernel
theorem dX6_init_33 : decode cX6_init 33 = .ok (.aload_n 1, 1) := by decide +kernel
theorem dX6_init_34 : decode cX6_init 34 = .ok (.invokespecial 29, 3) := by decide +kernel
theorem dX6_init_37 : decode cX6_init 37 = .ok (.putfield 32, 3) := by decide +kernel
theorem dX6_init_40 : decode cX6_init 40 = .ok (.return_, 1) := by decide +kernel
set_option maxRecDepth 20000 in
theorem ggX6_firstLeak_X1_become : GoodIn wsX6_firstLeak wsX1_become := goodIn_r _ [10, 11, 12, 13, 14, 15, 16, 17, 18, 19, 20, 21, 22, 133, 134, 135, 136, 137, 138, 139, 140, 141, 142] (by decide +kernel) (by decide +kernel)
set_option maxRecDepth 20000 in
theorem gX6_firstLeak_X1_become : GoodIn wsX6_firstLeak (wsV RX6 36 RX1 yX1_become wsX1_become) := goodIn_app (goodIn_of _ (by decide +kernel)) ggX6_firstLeak_X1_become
set_option maxRecDepth 20000 in
theorem ggX6_firstLeak_X4_firstWet : GoodIn wsX6_firstLeak wsX4_firstWet := goodIn_r _ [27, 28, 29, 30, 31, 32, 33, 34, 35, 36, 37, 26, 38, 39, 40, 41, 42, 43, 44, 45, 46, 47, 48, 49, 50, 51, 52, 53, 54, 55, 56, 57, 58, 59, 60, 61, 62, 63, 64, 65, 66, 67, 68, 69, 70, 71, 72, 73, 74, 75, 76, 77, 78, 79, 80, 81, 82, 83, 84, 85, 86, 87, 88, 89, 90, 91, 92, 93, 94, 95, 96, 97, 98, 99, 100, 101, 102, 103, 104, 105, 106, 107, 108, 109, 110, 111, 112, 143, 144, 145, 146, 147, 148, 149, 150, 151, 152, 153, 154, 155, 156, 157, 158] (by decide +kernel) (by decide +kernel)
set_option maxRecDepth 20000 in
theorem gX6_firstLeak_X4_firstWet : GoodIn wsX6_firstLeak (wsV RX6 44 RX4 yX4_firstWet wsX4_firstWet) := goodIn_app (goodIn_of _ (by decide +kernel)) ggX6_firstLeak_X4_firstWet
set_option maxRecDepth 20000 in
theorem ggX6_firstLeak_X1_weather : GoodIn wsX6_firstLeak wsX1_weather := goodIn_r _ [116, 117, 118, 119, 22, 120, 50, 51, 52, 53, 54, 55, 56, 57, 58, 59, 121, 122, 123, 9, 124, 21, 125, 32, 33, 34, 126, 127, 85, 86, 133, 134, 135, 136, 137, 138, 139, 140, 141, 142, 152, 153, 154, 155, 156, 157, 158] (by decide +kernel) (by decide +kernel)
set_option maxRecDepth 20000 in
theorem gX6_firstLeak_X1_weather : GoodIn wsX6_firstLeak (wsV RX6 50 RX1 yX1_weather wsX1_weather) := goodIn_app (goodIn_of _ (by decide +kernel)) ggX6_firstLeak_X1_weather
theorem dX6_firstLeak_0 : decode cX6_firstLeak 0 = .ok (.aload_n 0, 1) := by decide +kernel
theorem dX6_firstLeak_1 : decode cX6_firstLeak 1 = .ok (.getfield 32, 3) := by decide +kernel
theorem dX6_firstLeak_4 : decode cX6_firstLeak 4 = .ok (.aload_n 1, 1) := by decide +kernel
theorem dX6_firstLeak_5 : decode cX6_firstLeak 5 = .ok (.invokevirtual 36, 3) := by decide +kernel
theorem dX6_firstLeak_8 : decode cX6_firstLeak 8 = .ok (.aload_n 0, 1) := by decide +kernel
theorem dX6_firstLeak_9 : decode cX6_firstLeak 9 = .ok (.bipush (-9), 2) := by decide +kernel
theorem dX6_firstLeak_11 : decode cX6_firstLeak 11 = .ok (.putfield 15, 3) := by decide +kernel
theorem dX6_firstLeak_14 : decode cX6_firstLeak 14 = .ok (.aload_n 0, 1) := by decide +kernel
theorem dX6_firstLeak_15 : decode cX6_firstLeak 15 = .ok (.getfield 32, 3) := by decide +kernel
theorem dX6_firstLeak_18 : decode cX6_firstLeak 18 = .ok (.getfield 40, 3) := by decide +kernel
theorem dX6_firstLeak_21 : decode cX6_firstLeak 21 = .ok (.iconst 1, 1) := by decide +kernel
theorem dX6_firstLeak_22 : decode cX6_firstLeak 22 = .ok (.isub, 1) := by decide +kernel
theorem dX6_firstLeak_23 : decode cX6_firstLeak 23 = .ok (.istore_n 2, 1) := by decide +kernel
theorem dX6_firstLeak_24 : decode cX6_firstLeak 24 = .ok (.iconst 0, 1) := by decide +kernel
theorem dX6_firstLeak_25 : decode cX6_firstLeak 25 = .ok (.istore_n 3, 1) := by decide +kernel
theorem dX6_firstLeak_26 : decode cX6_firstLeak 26 = .ok (.iload_n 3, 1) := by decide +kernel
theorem dX6_firstLeak_27 : decode cX6_firstLeak 27 = .ok (.bipush 99, 2) := by decide +kernel
theorem dX6_firstLeak_29 : decode cX6_firstLeak 29 = .ok (.if_icmp .gt 65, 3) := by decide +kernel
theorem dX6_firstLeak_32 : decode cX6_firstLeak 32 = .ok (.aload_n 0, 1) := by decide +kernel
theorem dX6_firstLeak_33 : decode cX6_firstLeak 33 = .ok (.getfield 32, 3) := by decide +kernel
theorem dX6_firstLeak_36 : decode cX6_firstLeak 36 = .ok (.getfield 40, 3) := by decide +kernel
theorem dX6_firstLeak_39 : decode cX6_firstLeak 39 = .ok (.iload_n 2, 1) := by decide +kernel
theorem dX6_firstLeak_40 : decode cX6_firstLeak 40 = .ok (.if_icmp .eq 29, 3) := by decide +kernel
theorem dX6_firstLeak_43 : decode cX6_firstLeak 43 = .ok (.aload_n 0, 1) := by decide +kernel
theorem dX6_firstLeak_44 : decode cX6_firstLeak 44 = .ok (.getfield 32, 3) := by decide +kernel
theorem dX6_firstLeak_47 : decode cX6_firstLeak 47 = .ok (.getfield 40, 3) := by decide +kernel
theorem dX6_firstLeak_50 : decode cX6_firstLeak 50 = .ok (.istore_n 2, 1) := by decide +kernel
theorem dX6_firstLeak_51 : decode cX6_firstLeak 51 = .ok (.aload_n 0, 1) := by decide +kernel
theorem dX6_firstLeak_52 : decode cX6_firstLeak 52 = .ok (.aload_n 0, 1) := by decide +kernel
theorem dX6_firstLeak_53 : decode cX6_firstLeak 53 = .ok (.getfield 23, 3) := by decide +kernel
theorem dX6_firstLeak_56 : decode cX6_firstLeak 56 = .ok (.aload_n 0, 1) := by decide +kernel
theorem dX6_firstLeak_57 : decode cX6_firstLeak 57 = .ok (.getfield 32, 3) := by decide +kernel
theorem dX6_firstLeak_60 : decode cX6_firstLeak 60 = .ok (.getfield 43, 3) := by decide +kernel
theorem dX6_firstLeak_63 : decode cX6_firstLeak 63 = .ok (.invokevirtual 44, 3) := by decide +kernel
theorem dX6_firstLeak_66 : decode cX6_firstLeak 66 = .ok (.putfield 15, 3) := by decide +kernel
theorem dX6_firstLeak_69 : decode cX6_firstLeak 69 = .ok (.aload_n 0, 1) := by decide +kernel
theorem dX6_firstLeak_70 : decode cX6_firstLeak 70 = .ok (.getfield 15, 3) := by decide +kernel
theorem dX6_firstLeak_73 : decode cX6_firstLeak 73 = .ok (.bipush (-9), 2) := by decide +kernel
theorem dX6_firstLeak_75 : decode cX6_firstLeak 75 = .ok (.if_icmp .eq 5, 3) := by decide +kernel
theorem dX6_firstLeak_78 : decode cX6_firstLeak 78 = .ok (.iload_n 3, 1) := by decide +kernel
theorem dX6_firstLeak_79 : decode cX6_firstLeak 79 = .ok (.ireturn, 1) := by decide +kernel
theorem dX6_firstLeak_80 : decode cX6_firstLeak 80 = .ok (.aload_n 0, 1) := by decide +kernel
theorem dX6_firstLeak_81 : decode cX6_firstLeak 81 = .ok (.getfield 32, 3) := by decide +kernel
theorem dX6_firstLeak_84 : decode cX6_firstLeak 84 = .ok (.invokevirtual 50, 3) := by decide +kernel
theorem dX6_firstLeak_87 : decode cX6_firstLeak 87 = .ok (.pop, 1) := by decide +kernel
theorem dX6_firstLeak_88 : decode cX6_firstLeak 88 = .ok (.iinc 3 1, 3) := by decide +kernel
theorem dX6_firstLeak_91 : decode cX6_firstLeak 91 = .ok (.goto (-65), 3) := by decide +kernel
theorem dX6_firstLeak_94 : decode cX6_firstLeak 94 = .ok (.bipush (-9), 2) := by decide +kernel
theorem dX6_firstLeak_96 : decode cX6_firstLeak 96 = .ok (.ireturn, 1) := by decide +kernel
set_option maxRecDepth 20000 in
theorem ggX6_isProof_X7_cellOf : GoodIn wsX6_isProof wsX7_cellOf := goodIn_r _ [11] (by decide +kernel) (by decide +kernel)
set_option maxRecDepth 20000 in
theorem gX6_isProof_X7_cellOf_n65 : GoodIn wsX6_isProof (wsX7_cellOf) := ggX6_isProof_X7_cellOf
set_option maxRecDepth 20000 in
theorem ggX6_isProof_X7_isIn : GoodIn wsX6_isProof wsX7_isIn := goodIn_r _ [13] (by decide +kernel) (by decide +kernel)
set_option maxRecDepth 20000 in
theorem gX6_isProof_X7_isIn_n69 : GoodIn wsX6_isProof (wsX7_isIn) := ggX6_isProof_X7_isIn
set_option maxRecDepth 20000 in
theorem ggX6_isProof_X3_isOpening : GoodIn wsX6_isProof wsX3_isOpening := goodIn_r _ [18, 19, 100, 101, 102, 103, 104, 105, 106] (by decide +kernel) (by decide +kernel)
set_option maxRecDepth 20000 in
theorem gX6_isProof_X3_isOpening : GoodIn wsX6_isProof (wsV RX6 73 RX3 yX3_isOpening wsX3_isOpening) := goodIn_app (goodIn_of _ (by decide +kernel)) ggX6_isProof_X3_isOpening
set_option maxRecDepth 20000 in
theorem ggX6_isProof_X3_lowestRow : GoodIn wsX6_isProof wsX3_lowestRow := goodIn_r _ [23, 9, 10, 11, 24, 15, 16, 17, 18, 19, 100, 101, 102, 103, 104, 105, 106] (by decide +kernel) (by decide +kernel)
set_option maxRecDepth 20000 in
theorem gX6_isProof_X3_lowestRow : GoodIn wsX6_isProof (wsV RX6 77 RX3 yX3_lowestRow wsX3_lowestRow) := goodIn_app (goodIn_of _ (by decide +kernel)) ggX6_isProof_X3_lowestRow
set_option maxRecDepth 20000 in
theorem ggX6_isProof_X4_follow : GoodIn wsX6_isProof wsX4_follow := goodIn_r _ [29, 30, 31, 32, 33, 34, 35, 36, 37, 38, 39, 40, 28, 41, 42, 10, 43, 44, 45, 46, 47, 48, 49, 50, 51, 15, 16, 17, 18, 19, 52, 53, 54, 55, 12, 13, 56, 57, 58, 59, 60, 61, 62, 63, 64, 65, 66, 67, 68, 69, 70, 71, 72, 73, 74, 75, 76, 77, 78, 79, 80, 81, 82, 83, 84, 85, 86, 87, 88, 89, 90, 91, 92, 93, 94, 9, 11, 107, 108, 109, 110, 111, 112, 113, 114, 115, 100, 101, 102, 103, 104, 105, 106] (by decide +kernel) (by decide +kernel)
set_option maxRecDepth 20000 in
theorem gX6_isProof_X4_follow : GoodIn wsX6_isProof (wsV RX6 81 RX4 yX4_follow wsX4_follow) := goodIn_app (goodIn_of _ (by decide +kernel)) ggX6_isProof_X4_follow
set_option maxRecDepth 20000 in
theorem ggX6_isProof_X7_columnOf : GoodIn wsX6_isProof wsX7_columnOf := goodIn_r _ [72] (by decide +kernel) (by decide +kernel)
set_option maxRecDepth 20000 in
theorem gX6_isProof_X7_columnOf_n85 : GoodIn wsX6_isProof (wsX7_columnOf) := ggX6_isProof_X7_columnOf
theorem dX6_isProof_0 : decode cX6_isProof 0 = .ok (.aload_n 1, 1) := by decide +kernel
theorem dX6_isProof_1 : decode cX6_isProof 1 = .ok (.iconst 0, 1) := by decide +kernel
theorem dX6_isProof_2 : decode cX6_isProof 2 = .ok (.aload_n 0, 1) := by decide +kernel
theorem dX6_isProof_3 : decode cX6_isProof 3 = .ok (.getfield 9, 3) := by decide +kernel
theorem dX6_isProof_6 : decode cX6_isProof 6 = .ok (.iconst 0, 1) := by decide +kernel
theorem dX6_isProof_7 : decode cX6_isProof 7 = .ok (.bipush 60, 2) := by decide +kernel
theorem dX6_isProof_9 : decode cX6_isProof 9 = .ok (.invokestatic 54, 3) := by decide +kernel
theorem dX6_isProof_12 : decode cX6_isProof 12 = .ok (.iconst 0, 1) := by decide +kernel
theorem dX6_isProof_13 : decode cX6_isProof 13 = .ok (.istore 5, 2) := by decide +kernel
theorem dX6_isProof_15 : decode cX6_isProof 15 = .ok (.iload 5, 2) := by decide +kernel
theorem dX6_isProof_17 : decode cX6_isProof 17 = .ok (.aload_n 0, 1) := by decide +kernel
theorem dX6_isProof_18 : decode cX6_isProof 18 = .ok (.getfield 19, 3) := by decide +kernel
theorem dX6_isProof_21 : decode cX6_isProof 21 = .ok (.getfield 60, 3) := by decide +kernel
theorem dX6_isProof_24 : decode cX6_isProof 24 = .ok (.if_icmp .ge 21, 3) := by decide +kernel
theorem dX6_isProof_27 : decode cX6_isProof 27 = .ok (.aload_n 0, 1) := by decide +kernel
theorem dX6_isProof_28 : decode cX6_isProof 28 = .ok (.getfield 9, 3) := by decide +kernel
theorem dX6_isProof_31 : decode cX6_isProof 31 = .ok (.iload_n 2, 1) := by decide +kernel
theorem dX6_isProof_32 : decode cX6_isProof 32 = .ok (.iload 5, 2) := by decide +kernel
theorem dX6_isProof_34 : decode cX6_isProof 34 = .ok (.invokestatic 65, 3) := by decide +kernel
theorem dX6_isProof_37 : decode cX6_isProof 37 = .ok (.lconst 0, 1) := by decide +kernel
theorem dX6_isProof_38 : decode cX6_isProof 38 = .ok (.lastore, 1) := by decide +kernel
theorem dX6_isProof_39 : decode cX6_isProof 39 = .ok (.iinc 5 1, 3) := by decide +kernel
theorem dX6_isProof_42 : decode cX6_isProof 42 = .ok (.goto (-27), 3) := by decide +kernel
theorem dX6_isProof_45 : decode cX6_isProof 45 = .ok (.iconst 0, 1) := by decide +kernel
theorem dX6_isProof_46 : decode cX6_isProof 46 = .ok (.istore 5, 2) := by decide +kernel
theorem dX6_isProof_48 : decode cX6_isProof 48 = .ok (.iload 5, 2) := by decide +kernel
theorem dX6_isProof_50 : decode cX6_isProof 50 = .ok (.aload_n 0, 1) := by decide +kernel
theorem dX6_isProof_51 : decode cX6_isProof 51 = .ok (.getfield 19, 3) := by decide +kernel
theorem dX6_isProof_54 : decode cX6_isProof 54 = .ok (.getfield 60, 3) := by decide +kernel
theorem dX6_isProof_57 : decode cX6_isProof 57 = .ok (.if_icmp .ge 85, 3) := by decide +kernel
theorem dX6_isProof_60 : decode cX6_isProof 60 = .ok (.iload 4, 2) := by decide +kernel
theorem dX6_isProof_62 : decode cX6_isProof 62 = .ok (.i2l, 1) := by decide +kernel
theorem dX6_isProof_63 : decode cX6_isProof 63 = .ok (.iload 5, 2) := by decide +kernel
theorem dX6_isProof_65 : decode cX6_isProof 65 = .ok (.invokestatic 69, 3) := by decide +kernel
theorem dX6_isProof_68 : decode cX6_isProof 68 = .ok (.ifCond .ne 6, 3) := by decide +kernel
theorem dX6_isProof_71 : decode cX6_isProof 71 = .ok (.goto 65, 3) := by decide +kernel
theorem dX6_isProof_74 : decode cX6_isProof 74 = .ok (.aload_n 0, 1) := by decide +kernel
theorem dX6_isProof_75 : decode cX6_isProof 75 = .ok (.getfield 19, 3) := by decide +kernel
theorem dX6_isProof_78 : decode cX6_isProof 78 = .ok (.iload_n 2, 1) := by decide +kernel
theorem dX6_isProof_79 : decode cX6_isProof 79 = .ok (.iload 5, 2) := by decide +kernel
theorem dX6_isProof_81 : decode cX6_isProof 81 = .ok (.invokestatic 65, 3) := by decide +kernel
theorem dX6_isProof_84 : decode cX6_isProof 84 = .ok (.invokevirtual 73, 3) := by decide +kernel
theorem dX6_isProof_87 : decode cX6_isProof 87 = .ok (.ifCond .eq 5, 3) := by decide +kernel
theorem dX6_isProof_90 : decode cX6_isProof 90 = .ok (.iconst 0, 1) := by decide +kernel
theorem dX6_isProof_91 : decode cX6_isProof 91 = .ok (.ireturn, 1) := by decide +kernel
theorem dX6_isProof_92 : decode cX6_isProof 92 = .ok (.aload_n 0, 1) := by decide +kernel
theorem dX6_isProof_93 : decode cX6_isProof 93 = .ok (.getfield 19, 3) := by decide +kernel
theorem dX6_isProof_96 : decode cX6_isProof 96 = .ok (.iload_n 2, 1) := by decide +kernel
theorem dX6_isProof_97 : decode cX6_isProof 97 = .ok (.iload 5, 2) := by decide +kernel
theorem dX6_isProof_99 : decode cX6_isProof 99 = .ok (.iload_n 3, 1) := by decide +kernel
theorem dX6_isProof_100 : decode cX6_isProof 100 = .ok (.invokevirtual 77, 3) := by decide +kernel
theorem dX6_isProof_103 : decode cX6_isProof 103 = .ok (.istore 6, 2) := by decide +kernel
theorem dX6_isProof_105 : decode cX6_isProof 105 = .ok (.iload 6, 2) := by decide +kernel
theorem dX6_isProof_107 : decode cX6_isProof 107 = .ok (.iload 5, 2) := by decide +kernel
theorem dX6_isProof_109 : decode cX6_isProof 109 = .ok (.if_icmp .gt 27, 3) := by decide +kernel
theorem dX6_isProof_112 : decode cX6_isProof 112 = .ok (.aload_n 0, 1) := by decide +kernel
theorem dX6_isProof_113 : decode cX6_isProof 113 = .ok (.getfield 9, 3) := by decide +kernel
theorem dX6_isProof_116 : decode cX6_isProof 116 = .ok (.iload_n 2, 1) := by decide +kernel
theorem dX6_isProof_117 : decode cX6_isProof 117 = .ok (.iload 6, 2) := by decide +kernel
theorem dX6_isProof_119 : decode cX6_isProof 119 = .ok (.invokestatic 65, 3) := by decide +kernel
theorem dX6_isProof_122 : decode cX6_isProof 122 = .ok (.dup2, 1) := by decide +kernel
theorem dX6_isProof_123 : decode cX6_isProof 123 = .ok (.laload, 1) := by decide +kernel
theorem dX6_isProof_124 : decode cX6_isProof 124 = .ok (.lconst 1, 1) := by decide +kernel
theorem dX6_isProof_125 : decode cX6_isProof 125 = .ok (.iload 5, 2) := by decide +kernel
theorem dX6_isProof_127 : decode cX6_isProof 127 = .ok (.lshl, 1) := by decide +kernel
theorem dX6_isProof_128 : decode cX6_isProof 128 = .ok (.lor, 1) := by decide +kernel
theorem dX6_isProof_129 : decode cX6_isProof 129 = .ok (.lastore, 1) := by decide +kernel
theorem dX6_isProof_130 : decode cX6_isProof 130 = .ok (.iinc 6 1, 3) := by decide +kernel
theorem dX6_isProof_133 : decode cX6_isProof 133 = .ok (.goto (-28), 3) := by decide +kernel
theorem dX6_isProof_136 : decode cX6_isProof 136 = .ok (.iinc 5 1, 3) := by decide +kernel
theorem dX6_isProof_139 : decode cX6_isProof 139 = .ok (.goto (-91), 3) := by decide +kernel
theorem dX6_isProof_142 : decode cX6_isProof 142 = .ok (.iconst 0, 1) := by decide +kernel
theorem dX6_isProof_143 : decode cX6_isProof 143 = .ok (.istore 5, 2) := by decide +kernel
theorem dX6_isProof_145 : decode cX6_isProof 145 = .ok (.iload 5, 2) := by decide +kernel
theorem dX6_isProof_147 : decode cX6_isProof 147 = .ok (.aload_n 0, 1) := by decide +kernel
theorem dX6_isProof_148 : decode cX6_isProof 148 = .ok (.getfield 19, 3) := by decide +kernel
theorem dX6_isProof_151 : decode cX6_isProof 151 = .ok (.getfield 60, 3) := by decide +kernel
theorem dX6_isProof_154 : decode cX6_isProof 154 = .ok (.if_icmp .ge 46, 3) := by decide +kernel
theorem dX6_isProof_157 : decode cX6_isProof 157 = .ok (.aload_n 0, 1) := by decide +kernel
theorem dX6_isProof_158 : decode cX6_isProof 158 = .ok (.getfield 23, 3) := by decide +kernel
theorem dX6_isProof_161 : decode cX6_isProof 161 = .ok (.aload_n 0, 1) := by decide +kernel
theorem dX6_isProof_162 : decode cX6_isProof 162 = .ok (.getfield 9, 3) := by decide +kernel
theorem dX6_isProof_165 : decode cX6_isProof 165 = .ok (.iload_n 2, 1) := by decide +kernel
theorem dX6_isProof_166 : decode cX6_isProof 166 = .ok (.iload 5, 2) := by decide +kernel
theorem dX6_isProof_168 : decode cX6_isProof 168 = .ok (.invokestatic 65, 3) := by decide +kernel
theorem dX6_isProof_171 : decode cX6_isProof 171 = .ok (.invokevirtual 81, 3) := by decide +kernel
theorem dX6_isProof_174 : decode cX6_isProof 174 = .ok (.istore 6, 2) := by decide +kernel
theorem dX6_isProof_176 : decode cX6_isProof 176 = .ok (.iload 6, 2) := by decide +kernel
theorem dX6_isProof_178 : decode cX6_isProof 178 = .ok (.bipush 100, 2) := by decide +kernel
theorem dX6_isProof_180 : decode cX6_isProof 180 = .ok (.if_icmp .eq 14, 3) := by decide +kernel
theorem dX6_isProof_183 : decode cX6_isProof 183 = .ok (.iload 6, 2) := by decide +kernel
theorem dX6_isProof_185 : decode cX6_isProof 185 = .ok (.invokestatic 85, 3) := by decide +kernel
theorem dX6_isProof_188 : decode cX6_isProof 188 = .ok (.iload_n 2, 1) := by decide +kernel
theorem dX6_isProof_189 : decode cX6_isProof 189 = .ok (.if_icmp .ne 5, 3) := by decide +kernel
theorem dX6_isProof_192 : decode cX6_isProof 192 = .ok (.iconst 0, 1) := by decide +kernel
theorem dX6_isProof_193 : decode cX6_isProof 193 = .ok (.ireturn, 1) := by decide +kernel
theorem dX6_isProof_194 : decode cX6_isProof 194 = .ok (.iinc 5 1, 3) := by decide +kernel
theorem dX6_isProof_197 : decode cX6_isProof 197 = .ok (.goto (-52), 3) := by decide +kernel
theorem dX6_isProof_200 : decode cX6_isProof 200 = .ok (.iconst 1, 1) := by decide +kernel
theorem dX6_isProof_201 : decode cX6_isProof 201 = .ok (.ireturn, 1) := by decide +kernel
set_option maxRecDepth 20000 in
theorem ggX6_leastWay_J13_bitCount_95d88 : GoodIn wsX6_leastWay wsJ13_bitCount_95d88 := goodIn_r _ [6, 7, 8, 9] (by decide +kernel) (by decide +kernel)
set_option maxRecDepth 20000 in
theorem gX6_leastWay_J13_bitCount_95d88 : GoodIn wsX6_leastWay (va_wsS RX6 89 yJ13_bitCount_95d88 wsJ13_bitCount_95d88) := goodIn_app (goodIn_of _ (by decide +kernel)) ggX6_leastWay_J13_bitCount_95d88
set_option maxRecDepth 20000 in
theorem ggX6_leastWay_X6_isProof : GoodIn wsX6_leastWay wsX6_isProof := goodIn_r _ [14, 15, 16, 17, 18, 19, 1, 2, 20, 21, 22, 23, 24, 25, 26, 27, 28, 29, 30, 31, 32, 33, 34, 35, 36, 37, 38, 39, 40, 41, 42, 43, 44, 45, 46, 47, 48, 49, 50, 51, 52, 53, 54, 55, 56, 4, 5, 6, 7, 8, 9, 57, 58, 59, 60, 61, 62, 63, 64, 65, 66, 67, 68, 69, 70, 71, 72, 73, 74, 75, 76, 77, 78, 79, 80, 81, 82, 83, 84, 85, 86, 87, 88, 89, 90, 91, 92, 93, 94, 95, 96, 97, 98, 99, 100, 101, 102, 103, 104, 105, 106, 107, 108, 109, 110, 111, 112, 113, 114, 115, 116, 117, 118, 119, 120, 121] (by decide +kernel) (by decide +kernel)
set_option maxRecDepth 20000 in
theorem gX6_leastWay_X6_isProof : GoodIn wsX6_leastWay (wsV RX6 95 RX6 yX6_isProof wsX6_isProof) := goodIn_app (goodIn_of _ (by decide +kernel)) ggX6_leastWay_X6_isProof
theorem dX6_leastWay_0 : decode cX6_leastWay 0 = .ok (.bipush (-9), 2) := by decide +kernel
theorem dX6_leastWay_2 : decode cX6_leastWay 2 = .ok (.istore 4, 2) := by decide +kernel
theorem dX6_leastWay_4 : decode cX6_leastWay 4 = .ok (.bipush 7, 2) := by decide +kernel
theorem dX6_leastWay_6 : decode cX6_leastWay 6 = .ok (.istore 5, 2) := by decide +kernel
theorem dX6_leastWay_8 : decode cX6_leastWay 8 = .ok (.iconst 0, 1) := by decide +kernel
theorem dX6_leastWay_9 : decode cX6_leastWay 9 = .ok (.istore 6, 2) := by decide +kernel
theorem dX6_leastWay_11 : decode cX6_leastWay 11 = .ok (.iload 6, 2) := by decide +kernel
theorem dX6_leastWay_13 : decode cX6_leastWay 13 = .ok (.iconst 1, 1) := by decide +kernel
theorem dX6_leastWay_14 : decode cX6_leastWay 14 = .ok (.aload_n 0, 1) := by decide +kernel
theorem dX6_leastWay_15 : decode cX6_leastWay 15 = .ok (.getfield 19, 3) := by decide +kernel
theorem dX6_leastWay_18 : decode cX6_leastWay 18 = .ok (.getfield 60, 3) := by decide +kernel
theorem dX6_leastWay_21 : decode cX6_leastWay 21 = .ok (.ishl, 1) := by decide +kernel
theorem dX6_leastWay_22 : decode cX6_leastWay 22 = .ok (.if_icmp .ge 44, 3) := by decide +kernel
theorem dX6_leastWay_25 : decode cX6_leastWay 25 = .ok (.iload 6, 2) := by decide +kernel
theorem dX6_leastWay_27 : decode cX6_leastWay 27 = .ok (.i2l, 1) := by decide +kernel
theorem dX6_leastWay_28 : decode cX6_leastWay 28 = .ok (.invokestatic 89, 3) := by decide +kernel
theorem dX6_leastWay_31 : decode cX6_leastWay 31 = .ok (.iload 5, 2) := by decide +kernel
theorem dX6_leastWay_33 : decode cX6_leastWay 33 = .ok (.if_icmp .ge 27, 3) := by decide +kernel
theorem dX6_leastWay_36 : decode cX6_leastWay 36 = .ok (.aload_n 0, 1) := by decide +kernel
theorem dX6_leastWay_37 : decode cX6_leastWay 37 = .ok (.aload_n 1, 1) := by decide +kernel
theorem dX6_leastWay_38 : decode cX6_leastWay 38 = .ok (.iload_n 2, 1) := by decide +kernel
theorem dX6_leastWay_39 : decode cX6_leastWay 39 = .ok (.iload_n 3, 1) := by decide +kernel
theorem dX6_leastWay_40 : decode cX6_leastWay 40 = .ok (.iload 6, 2) := by decide +kernel
theorem dX6_leastWay_42 : decode cX6_leastWay 42 = .ok (.invokevirtual 95, 3) := by decide +kernel
theorem dX6_leastWay_45 : decode cX6_leastWay 45 = .ok (.ifCond .eq 15, 3) := by decide +kernel
theorem dX6_leastWay_48 : decode cX6_leastWay 48 = .ok (.iload 6, 2) := by decide +kernel
theorem dX6_leastWay_50 : decode cX6_leastWay 50 = .ok (.istore 4, 2) := by decide +kernel
theorem dX6_leastWay_52 : decode cX6_leastWay 52 = .ok (.iload 6, 2) := by decide +kernel
theorem dX6_leastWay_54 : decode cX6_leastWay 54 = .ok (.i2l, 1) := by decide +kernel
theorem dX6_leastWay_55 : decode cX6_leastWay 55 = .ok (.invokestatic 89, 3) := by decide +kernel
theorem dX6_leastWay_58 : decode cX6_leastWay 58 = .ok (.istore 5, 2) := by decide +kernel
theorem dX6_leastWay_60 : decode cX6_leastWay 60 = .ok (.iinc 6 1, 3) := by decide +kernel
theorem dX6_leastWay_63 : decode cX6_leastWay 63 = .ok (.goto (-52), 3) := by decide +kernel
theorem dX6_leastWay_66 : decode cX6_leastWay 66 = .ok (.iload 4, 2) := by decide +kernel
theorem dX6_leastWay_68 : decode cX6_leastWay 68 = .ok (.ireturn, 1) := by decide +kernel
