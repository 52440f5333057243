set_option maxRecDepth 20000 in
theorem ggX7_init_X3_init : GoodIn wsX7_init wsX3_init := goodIn_r _ [35, 36, 2, 3, 37, 38, 39, 40, 41, 42, 43, 44, 6, 45, 46, 47, 48, 49, 50, 51, 52, 53, 54, 55, 102, 103, 104, 105, 106, 107, 108] (by decide +kernel) (by decide +kernel)
set_option maxRecDepth 20000 in
theorem gX7_init_X3_init : GoodIn wsX7_init (wsX3_init) := ggX7_init_X3_init
set_option maxRecDepth 20000 in
theorem ggX7_init_X1_init : GoodIn wsX7_init wsX1_init := goodIn_r _ [58, 59, 2, 3, 38, 60, 61, 62, 63, 64, 65, 66, 67, 68, 119, 120, 121, 122, 123, 124, 125, 126, 127, 128] (by decide +kernel) (by decide +kernel)
set_option maxRecDepth 20000 in
theorem gX7_init_X1_init : GoodIn wsX7_init (wsX1_init) := ggX7_init_X1_init
set_option maxRecDepth 20000 in
theorem ggX7_init_X4_init : GoodIn wsX7_init wsX4_init := goodIn_r _ [71, 72, 2, 3, 38, 73, 74, 129, 130, 131, 132, 133, 134, 135, 136, 137] (by decide +kernel) (by decide +kernel)
set_option maxRecDepth 20000 in
theorem gX7_init_X4_init : GoodIn wsX7_init (wsX4_init) := ggX7_init_X4_init
set_option maxRecDepth 20000 in
theorem ggX7_init_X6_init : GoodIn wsX7_init wsX6_init := goodIn_r _ [77, 78, 2, 3, 66, 79, 80, 81, 82, 83, 9, 10, 84, 85, 57, 58, 59, 38, 60, 61, 62, 63, 64, 65, 67, 68, 138, 139, 140, 141, 142, 119, 120, 121, 122, 123, 124, 125, 126, 127, 128] (by decide +kernel) (by decide +kernel)
set_option maxRecDepth 20000 in
theorem gX7_init_X6_init : GoodIn wsX7_init (wsX6_init) := ggX7_init_X6_init
set_option maxRecDepth 20000 in
theorem ggX7_init_X0_init : GoodIn wsX7_init wsX0_init := goodIn_r _ [88, 89, 2, 3, 38, 90, 91, 92, 93, 94, 66, 95, 96, 97, 53, 54, 55, 143, 144, 145, 146, 147, 148, 149] (by decide +kernel) (by decide +kernel)
set_option maxRecDepth 20000 in
theorem gX7_init_X0_init : GoodIn wsX7_init (wsX0_init) := ggX7_init_X0_init
set_option maxRecDepth 20000 in
theorem ggX7_init_X5_init : GoodIn wsX7_init wsX5_init := goodIn_r _ [99, 100, 2, 3, 38, 101, 150, 151] (by decide +kernel) (by decide +kernel)
set_option maxRecDepth 20000 in
theorem gX7_init_X5_init_n65 : GoodIn wsX7_init (wsX5_init) := ggX7_init_X5_init
theorem dX7_init_0 : decode cX7_init 0 = .ok (.aload_n 0, 1) := by decide +kernel
theorem dX7_init_1 : decode cX7_init 1 = .ok (.invokespecial 1, 3) := by decide +kernel
theorem dX7_init_4 : decode cX7_init 4 = .ok (.aload_n 0, 1) := by decide +kernel
theorem dX7_init_5 : decode cX7_init 5 = .ok (.new 7, 3) := by decide +kernel
theorem dX7_init_8 : decode cX7_init 8 = .ok (.dup, 1) := by decide +kernel
theorem dX7_init_9 : decode cX7_init 9 = .ok (.invokespecial 9, 3) := by decide +kernel
theorem dX7_init_12 : decode cX7_init 12 = .ok (.putfield 10, 3) := by decide +kernel
theorem dX7_init_15 : decode cX7_init 15 = .ok (.aload_n 0, 1) := by decide +kernel
theorem dX7_init_16 : decode cX7_init 16 = .ok (.new 16, 3) := by decide +kernel
theorem dX7_init_19 : decode cX7_init 19 = .ok (.dup, 1) := by decide +kernel
theorem dX7_init_20 : decode cX7_init 20 = .ok (.aload_n 0, 1) := by decide +kernel
theorem dX7_init_21 : decode cX7_init 21 = .ok (.getfield 10, 3) := by decide +kernel
theorem dX7_init_24 : decode cX7_init 24 = .ok (.invokespecial 18, 3) := by decide +kernel
theorem dX7_init_27 : decode cX7_init 27 = .ok (.putfield 21, 3) := by decide +kernel
theorem dX7_init_30 : decode cX7_init 30 = .ok (.aload_n 0, 1) := by decide +kernel
theorem dX7_init_31 : decode cX7_init 31 = .ok (.new 16, 3) := by decide +kernel
theorem dX7_init_34 : decode cX7_init 34 = .ok (.dup, 1) := by decide +kernel
theorem dX7_init_35 : decode cX7_init 35 = .ok (.aload_n 0, 1) := by decide +kernel
theorem dX7_init_36 : decode cX7_init 36 = .ok (.getfield 10, 3) := by decide +kernel
theorem dX7_init_39 : decode cX7_init 39 = .ok (.invokespecial 18, 3) := by decide +kernel
theorem dX7_init_42 : decode cX7_init 42 = .ok (.putfield 25, 3) := by decide +kernel
theorem dX7_init_45 : decode cX7_init 45 = .ok (.aload_n 0, 1) := by decide +kernel
theorem dX7_init_46 : decode cX7_init 46 = .ok (.new 16, 3) := by decide +kernel
theorem dX7_init_49 : decode cX7_init 49 = .ok (.dup, 1) := by decide +kernel
theorem dX7_init_50 : decode cX7_init 50 = .ok (.aload_n 0, 1) := by decide +kernel
theorem dX7_init_51 : decode cX7_init 51 = .ok (.getfield 10, 3) := by decide +kernel
theorem dX7_init_54 : decode cX7_init 54 = .ok (.invokespecial 18, 3) := by decide +kernel
theorem dX7_init_57 : decode cX7_init 57 = .ok (.putfield 28, 3) := by decide +kernel
theorem dX7_init_60 : decode cX7_init 60 = .ok (.aload_n 0, 1) := by decide +kernel
theorem dX7_init_61 : decode cX7_init 61 = .ok (.new 16, 3) := by decide +kernel
theorem dX7_init_64 : decode cX7_init 64 = .ok (.dup, 1) := by decide +kernel
theorem dX7_init_65 : decode cX7_init 65 = .ok (.aload_n 0, 1) := by decide +kernel
theorem dX7_init_66 : decode cX7_init 66 = .ok (.getfield 10, 3) := by decide +kernel
theorem dX7_init_69 : decode cX7_init 69 = .ok (.invokespecial 18, 3) := by decide +kernel
theorem dX7_init_72 : decode cX7_init 72 = .ok (.putfield 31, 3) := by decide +kernel
theorem dX7_init_75 : decode cX7_init 75 = .ok (.aload_n 0, 1) := by decide +kernel
theorem dX7_init_76 : decode cX7_init 76 = .ok (.iconst 2, 1) := by decide +kernel
theorem dX7_init_77 : decode cX7_init 77 = .ok (.newarray .boolean, 2) := by decide +kernel
theorem dX7_init_79 : decode cX7_init 79 = .ok (.putfield 34, 3) := by decide +kernel
theorem dX7_init_82 : decode cX7_init 82 = .ok (.aload_n 0, 1) := by decide +kernel
theorem dX7_init_83 : decode cX7_init 83 = .ok (.new 38, 3) := by decide +kernel
theorem dX7_init_86 : decode cX7_init 86 = .ok (.dup, 1) := by decide +kernel
theorem dX7_init_87 : decode cX7_init 87 = .ok (.aload_n 0, 1) := by decide +kernel
theorem dX7_init_88 : decode cX7_init 88 = .ok (.getfield 10, 3) := by decide +kernel
theorem dX7_init_91 : decode cX7_init 91 = .ok (.invokespecial 40, 3) := by decide +kernel
theorem dX7_init_94 : decode cX7_init 94 = .ok (.putfield 41, 3) := by decide +kernel
theorem dX7_init_97 : decode cX7_init 97 = .ok (.aload_n 0, 1) := by decide +kernel
theorem dX7_init_98 : decode cX7_init 98 = .ok (.new 45, 3) := by decide +kernel
theorem dX7_init_101 : decode cX7_init 101 = .ok (.dup, 1) := by decide +kernel
theorem dX7_init_102 : decode cX7_init 102 = .ok (.aload_n 0, 1) := by decide +kernel
theorem dX7_init_103 : decode cX7_init 103 = .ok (.getfield 10, 3) := by decide +kernel
theorem dX7_init_106 : decode cX7_init 106 = .ok (.aload_n 0, 1) := by decide +kernel
theorem dX7_init_107 : decode cX7_init 107 = .ok (.getfield 41, 3) := by decide +kernel
theorem dX7_init_110 : decode cX7_init 110 = .ok (.invokespecial 47, 3) := by decide +kernel
theorem dX7_init_113 : decode cX7_init 113 = .ok (.putfield 50, 3) := by decide +kernel
theorem dX7_init_116 : decode cX7_init 116 = .ok (.aload_n 0, 1) := by decide +kernel
theorem dX7_init_117 : decode cX7_init 117 = .ok (.new 54, 3) := by decide +kernel
theorem dX7_init_120 : decode cX7_init 120 = .ok (.dup, 1) := by decide +kernel
theorem dX7_init_121 : decode cX7_init 121 = .ok (.aload_n 0, 1) := by decide +kernel
theorem dX7_init_122 : decode cX7_init 122 = .ok (.getfield 21, 3) := by decide +kernel
theorem dX7_init_125 : decode cX7_init 125 = .ok (.invokespecial 56, 3) := by decide +kernel
theorem dX7_init_128 : decode cX7_init 128 = .ok (.putfield 59, 3) := by decide +kernel
theorem dX7_init_131 : decode cX7_init 131 = .ok (.aload_n 0, 1) := by decide +kernel
theorem dX7_init_132 : decode cX7_init 132 = .ok (.new 63, 3) := by decide +kernel
theorem dX7_init_135 : decode cX7_init 135 = .ok (.dup, 1) := by decide +kernel
theorem dX7_init_136 : decode cX7_init 136 = .ok (.invokespecial 65, 3) := by decide +kernel
theorem dX7_init_139 : decode cX7_init 139 = .ok (.putfield 66, 3) := by decide +kernel
theorem dX7_init_142 : decode cX7_init 142 = .ok (.return_, 1) := by decide +kernel
set_option maxRecDepth 20000 in
theorem ggX7_roof_X7_isWithin : GoodIn wsX7_roof wsX7_isWithin := goodIn_r _ [8] (by decide +kernel) (by decide +kernel)
set_option maxRecDepth 20000 in
theorem gX7_roof_X7_isWithin : GoodIn wsX7_roof (va_wsS RX7 70 yX7_isWithin wsX7_isWithin) := goodIn_app (goodIn_of _ (by decide +kernel)) ggX7_roof_X7_isWithin
set_option maxRecDepth 20000 in
theorem ggX7_roof_X3_raise : GoodIn wsX7_roof wsX3_raise := goodIn_r _ [13, 14, 15, 16, 17, 18, 19, 20, 7, 21, 22, 23, 24, 25, 48, 49, 50, 51, 52, 53, 54] (by decide +kernel) (by decide +kernel)
set_option maxRecDepth 20000 in
theorem gX7_roof_X3_raise : GoodIn wsX7_roof (wsV RX7 74 RX3 yX3_raise wsX3_raise) := goodIn_app (goodIn_of _ (by decide +kernel)) ggX7_roof_X3_raise
set_option maxRecDepth 20000 in
theorem ggX7_roof_X1_bare : GoodIn wsX7_roof wsX1_bare := goodIn_r _ [30, 31, 32, 33, 34, 23, 24, 25, 35, 36, 37, 55, 56, 57, 58, 59, 60, 61, 62, 63, 64] (by decide +kernel) (by decide +kernel)
set_option maxRecDepth 20000 in
theorem gX7_roof_X1_bare : GoodIn wsX7_roof (wsV RX7 78 RX1 yX1_bare wsX1_bare) := goodIn_app (goodIn_of _ (by decide +kernel)) ggX7_roof_X1_bare
theorem dX7_roof_0 : decode cX7_roof 0 = .ok (.iload_n 1, 1) := by decide +kernel
theorem dX7_roof_1 : decode cX7_roof 1 = .ok (.iconst 1, 1) := by decide +kernel
theorem dX7_roof_2 : decode cX7_roof 2 = .ok (.bipush 6, 2) := by decide +kernel
theorem dX7_roof_4 : decode cX7_roof 4 = .ok (.invokestatic 70, 3) := by decide +kernel
theorem dX7_roof_7 : decode cX7_roof 7 = .ok (.ifCond .eq 13, 3) := by decide +kernel
theorem dX7_roof_10 : decode cX7_roof 10 = .ok (.iload_n 2, 1) := by decide +kernel
theorem dX7_roof_11 : decode cX7_roof 11 = .ok (.iconst 1, 1) := by decide +kernel
theorem dX7_roof_12 : decode cX7_roof 12 = .ok (.bipush 6, 2) := by decide +kernel
theorem dX7_roof_14 : decode cX7_roof 14 = .ok (.invokestatic 70, 3) := by decide +kernel
theorem dX7_roof_17 : decode cX7_roof 17 = .ok (.ifCond .ne 6, 3) := by decide +kernel
theorem dX7_roof_20 : decode cX7_roof 20 = .ok (.bipush (-2), 2) := by decide +kernel
theorem dX7_roof_22 : decode cX7_roof 22 = .ok (.ireturn, 1) := by decide +kernel
theorem dX7_roof_23 : decode cX7_roof 23 = .ok (.aload_n 0, 1) := by decide +kernel
theorem dX7_roof_24 : decode cX7_roof 24 = .ok (.getfield 10, 3) := by decide +kernel
theorem dX7_roof_27 : decode cX7_roof 27 = .ok (.iload_n 1, 1) := by decide +kernel
theorem dX7_roof_28 : decode cX7_roof 28 = .ok (.iload_n 2, 1) := by decide +kernel
theorem dX7_roof_29 : decode cX7_roof 29 = .ok (.invokevirtual 74, 3) := by decide +kernel
theorem dX7_roof_32 : decode cX7_roof 32 = .ok (.aload_n 0, 1) := by decide +kernel
theorem dX7_roof_33 : decode cX7_roof 33 = .ok (.getfield 21, 3) := by decide +kernel
theorem dX7_roof_36 : decode cX7_roof 36 = .ok (.invokevirtual 78, 3) := by decide +kernel
theorem dX7_roof_39 : decode cX7_roof 39 = .ok (.iconst 0, 1) := by decide +kernel
theorem dX7_roof_40 : decode cX7_roof 40 = .ok (.istore_n 3, 1) := by decide +kernel
theorem dX7_roof_41 : decode cX7_roof 41 = .ok (.iload_n 3, 1) := by decide +kernel
theorem dX7_roof_42 : decode cX7_roof 42 = .ok (.iconst 2, 1) := by decide +kernel
theorem dX7_roof_43 : decode cX7_roof 43 = .ok (.if_icmp .ge 16, 3) := by decide +kernel
theorem dX7_roof_46 : decode cX7_roof 46 = .ok (.aload_n 0, 1) := by decide +kernel
theorem dX7_roof_47 : decode cX7_roof 47 = .ok (.getfield 34, 3) := by decide +kernel
theorem dX7_roof_50 : decode cX7_roof 50 = .ok (.iload_n 3, 1) := by decide +kernel
theorem dX7_roof_51 : decode cX7_roof 51 = .ok (.iconst 0, 1) := by decide +kernel
theorem dX7_roof_52 : decode cX7_roof 52 = .ok (.bastore, 1) := by decide +kernel
theorem dX7_roof_53 : decode cX7_roof 53 = .ok (.iinc 3 1, 3) := by decide +kernel
theorem dX7_roof_56 : decode cX7_roof 56 = .ok (.goto (-15), 3) := by decide +kernel
theorem dX7_roof_59 : decode cX7_roof 59 = .ok (.aload_n 0, 1) := by decide +kernel
theorem dX7_roof_60 : decode cX7_roof 60 = .ok (.getfield 10, 3) := by decide +kernel
theorem dX7_roof_63 : decode cX7_roof 63 = .ok (.getfield 81, 3) := by decide +kernel
theorem dX7_roof_66 : decode cX7_roof 66 = .ok (.ireturn, 1) := by decide +kernel
set_option maxRecDepth 20000 in
theorem ggX7_pitch_X7_isWithin : GoodIn wsX7_pitch wsX7_isWithin := goodIn_r _ [6] (by decide +kernel) (by decide +kernel)
set_option maxRecDepth 20000 in
theorem gX7_pitch_X7_isWithin : GoodIn wsX7_pitch (va_wsS RX7 70 yX7_isWithin wsX7_isWithin) := goodIn_app (goodIn_of _ (by decide +kernel)) ggX7_pitch_X7_isWithin
theorem dX7_pitch_0 : decode cX7_pitch 0 = .ok (.iload_n 1, 1) := by decide +kernel
theorem dX7_pitch_1 : decode cX7_pitch 1 = .ok (.iconst 1, 1) := by decide +kernel
theorem dX7_pitch_2 : decode cX7_pitch 2 = .ok (.iconst 3, 1) := by decide +kernel
theorem dX7_pitch_3 : decode cX7_pitch 3 = .ok (.invokestatic 70, 3) := by decide +kernel
theorem dX7_pitch_6 : decode cX7_pitch 6 = .ok (.ifCond .ne 6, 3) := by decide +kernel
theorem dX7_pitch_9 : decode cX7_pitch 9 = .ok (.bipush (-2), 2) := by decide +kernel
theorem dX7_pitch_11 : decode cX7_pitch 11 = .ok (.ireturn, 1) := by decide +kernel
theorem dX7_pitch_12 : decode cX7_pitch 12 = .ok (.aload_n 0, 1) := by decide +kernel
theorem dX7_pitch_13 : decode cX7_pitch 13 = .ok (.getfield 10, 3) := by decide +kernel
theorem dX7_pitch_16 : decode cX7_pitch 16 = .ok (.getfield 85, 3) := by decide +kernel
theorem dX7_pitch_19 : decode cX7_pitch 19 = .ok (.istore_n 2, 1) := by decide +kernel
theorem dX7_pitch_20 : decode cX7_pitch 20 = .ok (.aload_n 0, 1) := by decide +kernel
theorem dX7_pitch_21 : decode cX7_pitch 21 = .ok (.getfield 10, 3) := by decide +kernel
theorem dX7_pitch_24 : decode cX7_pitch 24 = .ok (.iload_n 1, 1) := by decide +kernel
theorem dX7_pitch_25 : decode cX7_pitch 25 = .ok (.putfield 85, 3) := by decide +kernel
theorem dX7_pitch_28 : decode cX7_pitch 28 = .ok (.iload_n 2, 1) := by decide +kernel
theorem dX7_pitch_29 : decode cX7_pitch 29 = .ok (.ireturn, 1) := by decide +kernel
set_option maxRecDepth 20000 in
theorem ggX7_wear_X3_hasCell : GoodIn wsX7_wear wsX3_hasCell := goodIn_r _ [7, 8, 9, 10, 6, 11, 12, 13, 14, 15, 16, 17, 18, 19, 20, 35, 36, 37, 38, 39, 40, 41] (by decide +kernel) (by decide +kernel)
set_option maxRecDepth 20000 in
theorem gX7_wear_X3_hasCell : GoodIn wsX7_wear (wsV RX7 88 RX3 yX3_hasCell wsX3_hasCell) := goodIn_app (goodIn_of _ (by decide +kernel)) ggX7_wear_X3_hasCell
set_option maxRecDepth 20000 in
theorem ggX7_wear_X7_isWithin : GoodIn wsX7_wear wsX7_isWithin := goodIn_r _ [15] (by decide +kernel) (by decide +kernel)
set_option maxRecDepth 20000 in
theorem gX7_wear_X7_isWithin : GoodIn wsX7_wear (va_wsS RX7 70 yX7_isWithin wsX7_isWithin) := goodIn_app (goodIn_of _ (by decide +kernel)) ggX7_wear_X7_isWithin
set_option maxRecDepth 20000 in
theorem ggX7_wear_X7_cellOf : GoodIn wsX7_wear wsX7_cellOf := goodIn_r _ [24] (by decide +kernel) (by decide +kernel)
set_option maxRecDepth 20000 in
theorem gX7_wear_X7_cellOf : GoodIn wsX7_wear (va_wsS RX7 92 yX7_cellOf wsX7_cellOf) := goodIn_app (goodIn_of _ (by decide +kernel)) ggX7_wear_X7_cellOf
theorem dX7_wear_0 : decode cX7_wear 0 = .ok (.aload_n 0, 1) := by decide +kernel
theorem dX7_wear_1 : decode cX7_wear 1 = .ok (.getfield 10, 3) := by decide +kernel
theorem dX7_wear_4 : decode cX7_wear 4 = .ok (.iload_n 1, 1) := by decide +kernel
theorem dX7_wear_5 : decode cX7_wear 5 = .ok (.iload_n 2, 1) := by decide +kernel
theorem dX7_wear_6 : decode cX7_wear 6 = .ok (.invokevirtual 88, 3) := by decide +kernel
theorem dX7_wear_9 : decode cX7_wear 9 = .ok (.ifCond .ne 5, 3) := by decide +kernel
theorem dX7_wear_12 : decode cX7_wear 12 = .ok (.iconst (-1), 1) := by decide +kernel
theorem dX7_wear_13 : decode cX7_wear 13 = .ok (.ireturn, 1) := by decide +kernel
theorem dX7_wear_14 : decode cX7_wear 14 = .ok (.iload_n 3, 1) := by decide +kernel
theorem dX7_wear_15 : decode cX7_wear 15 = .ok (.iconst 1, 1) := by decide +kernel
theorem dX7_wear_16 : decode cX7_wear 16 = .ok (.iconst 3, 1) := by decide +kernel
theorem dX7_wear_17 : decode cX7_wear 17 = .ok (.invokestatic 70, 3) := by decide +kernel
theorem dX7_wear_20 : decode cX7_wear 20 = .ok (.ifCond .ne 6, 3) := by decide +kernel
theorem dX7_wear_23 : decode cX7_wear 23 = .ok (.bipush (-2), 2) := by decide +kernel
theorem dX7_wear_25 : decode cX7_wear 25 = .ok (.ireturn, 1) := by decide +kernel
theorem dX7_wear_26 : decode cX7_wear 26 = .ok (.iload_n 1, 1) := by decide +kernel
theorem dX7_wear_27 : decode cX7_wear 27 = .ok (.iload_n 2, 1) := by decide +kernel
theorem dX7_wear_28 : decode cX7_wear 28 = .ok (.invokestatic 92, 3) := by decide +kernel
theorem dX7_wear_31 : decode cX7_wear 31 = .ok (.istore 4, 2) := by decide +kernel
theorem dX7_wear_33 : decode cX7_wear 33 = .ok (.aload_n 0, 1) := by decide +kernel
theorem dX7_wear_34 : decode cX7_wear 34 = .ok (.getfield 10, 3) := by decide +kernel
theorem dX7_wear_37 : decode cX7_wear 37 = .ok (.getfield 96, 3) := by decide +kernel
theorem dX7_wear_40 : decode cX7_wear 40 = .ok (.iload 4, 2) := by decide +kernel
theorem dX7_wear_42 : decode cX7_wear 42 = .ok (.iaload, 1) := by decide +kernel
theorem dX7_wear_43 : decode cX7_wear 43 = .ok (.istore 5, 2) := by decide +kernel
theorem dX7_wear_45 : decode cX7_wear 45 = .ok (.aload_n 0, 1) := by decide +kernel
theorem dX7_wear_46 : decode cX7_wear 46 = .ok (.getfield 10, 3) := by decide +kernel
theorem dX7_wear_49 : decode cX7_wear 49 = .ok (.getfield 96, 3) := by decide +kernel
theorem dX7_wear_52 : decode cX7_wear 52 = .ok (.iload 4, 2) := by decide +kernel
theorem dX7_wear_54 : decode cX7_wear 54 = .ok (.iload_n 3, 1) := by decide +kernel
theorem dX7_wear_55 : decode cX7_wear 55 = .ok (.iastore, 1) := by decide +kernel
theorem dX7_wear_56 : decode cX7_wear 56 = .ok (.iload 5, 2) := by decide +kernel
theorem dX7_wear_58 : decode cX7_wear 58 = .ok (.ireturn, 1) := by decide +kernel
set_option maxRecDepth 20000 in
theorem ggX7_opening_X3_hasCell : GoodIn wsX7_opening wsX3_hasCell := goodIn_r _ [9, 10, 11, 12, 8, 13, 14, 15, 16, 17, 18, 19, 20, 21, 22, 47, 48, 49, 50, 51, 52, 53] (by decide +kernel) (by decide +kernel)
set_option maxRecDepth 20000 in
theorem gX7_opening_X3_hasCell : GoodIn wsX7_opening (wsV RX7 88 RX3 yX3_hasCell wsX3_hasCell) := goodIn_app (goodIn_of _ (by decide +kernel)) ggX7_opening_X3_hasCell
set_option maxRecDepth 20000 in
theorem ggX7_opening_X7_isWithin : GoodIn wsX7_opening wsX7_isWithin := goodIn_r _ [17] (by decide +kernel) (by decide +kernel)
set_option maxRecDepth 20000 in
theorem gX7_opening_X7_isWithin : GoodIn wsX7_opening (va_wsS RX7 70 yX7_isWithin wsX7_isWithin) := goodIn_app (goodIn_of _ (by decide +kernel)) ggX7_opening_X7_isWithin
set_option maxRecDepth 20000 in
theorem ggX7_opening_X7_cellOf : GoodIn wsX7_opening wsX7_cellOf := goodIn_r _ [26] (by decide +kernel) (by decide +kernel)
set_option maxRecDepth 20000 in
theorem gX7_opening_X7_cellOf : GoodIn wsX7_opening (va_wsS RX7 92 yX7_cellOf wsX7_cellOf) := goodIn_app (goodIn_of _ (by decide +kernel)) ggX7_opening_X7_cellOf
theorem dX7_opening_0 : decode cX7_opening 0 = .ok (.aload_n 0, 1) := by decide +kernel
theorem dX7_opening_1 : decode cX7_opening 1 = .ok (.getfield 10, 3) := by decide +kernel
theorem dX7_opening_4 : decode cX7_opening 4 = .ok (.iload_n 1, 1) := by decide +kernel
theorem dX7_opening_5 : decode cX7_opening 5 = .ok (.iload_n 2, 1) := by decide +kernel
theorem dX7_opening_6 : decode cX7_opening 6 = .ok (.invokevirtual 88, 3) := by decide +kernel
theorem dX7_opening_9 : decode cX7_opening 9 = .ok (.ifCond .ne 5, 3) := by decide +kernel
theorem dX7_opening_12 : decode cX7_opening 12 = .ok (.iconst (-1), 1) := by decide +kernel
theorem dX7_opening_13 : decode cX7_opening 13 = .ok (.ireturn, 1) := by decide +kernel
theorem dX7_opening_14 : decode cX7_opening 14 = .ok (.iload_n 3, 1) := by decide +kernel
theorem dX7_opening_15 : decode cX7_opening 15 = .ok (.iconst 0, 1) := by decide +kernel
theorem dX7_opening_16 : decode cX7_opening 16 = .ok (.iconst 2, 1) := by decide +kernel
theorem dX7_opening_17 : decode cX7_opening 17 = .ok (.invokestatic 70, 3) := by decide +kernel
theorem dX7_opening_20 : decode cX7_opening 20 = .ok (.ifCond .ne 6, 3) := by decide +kernel
theorem dX7_opening_23 : decode cX7_opening 23 = .ok (.bipush (-2), 2) := by decide +kernel
theorem dX7_opening_25 : decode cX7_opening 25 = .ok (.ireturn, 1) := by decide +kernel
theorem dX7_opening_26 : decode cX7_opening 26 = .ok (.iload_n 1, 1) := by decide +kernel
theorem dX7_opening_27 : decode cX7_opening 27 = .ok (.iload_n 2, 1) := by decide +kernel
theorem dX7_opening_28 : decode cX7_opening 28 = .ok (.invokestatic 92, 3) := by decide +kernel
theorem dX7_opening_31 : decode cX7_opening 31 = .ok (.istore 4, 2) := by decide +kernel
theorem dX7_opening_33 : decode cX7_opening 33 = .ok (.aload_n 0, 1) := by decide +kernel
theorem dX7_opening_34 : decode cX7_opening 34 = .ok (.getfield 21, 3) := by decide +kernel
theorem dX7_opening_37 : decode cX7_opening 37 = .ok (.getfield 100, 3) := by decide +kernel
theorem dX7_opening_40 : decode cX7_opening 40 = .ok (.iload 4, 2) := by decide +kernel
theorem dX7_opening_42 : decode cX7_opening 42 = .ok (.laload, 1) := by decide +kernel
theorem dX7_opening_43 : decode cX7_opening 43 = .ok (.lconst 0, 1) := by decide +kernel
theorem dX7_opening_44 : decode cX7_opening 44 = .ok (.lcmp, 1) := by decide +kernel
theorem dX7_opening_45 : decode cX7_opening 45 = .ok (.ifCond .eq 6, 3) := by decide +kernel
theorem dX7_opening_48 : decode cX7_opening 48 = .ok (.bipush (-3), 2) := by decide +kernel
theorem dX7_opening_50 : decode cX7_opening 50 = .ok (.ireturn, 1) := by decide +kernel
theorem dX7_opening_51 : decode cX7_opening 51 = .ok (.aload_n 0, 1) := by decide +kernel
theorem dX7_opening_52 : decode cX7_opening 52 = .ok (.getfield 10, 3) := by decide +kernel
theorem dX7_opening_55 : decode cX7_opening 55 = .ok (.getfield 104, 3) := by decide +kernel
theorem dX7_opening_58 : decode cX7_opening 58 = .ok (.iload 4, 2) := by decide +kernel
theorem dX7_opening_60 : decode cX7_opening 60 = .ok (.iaload, 1) := by decide +kernel
theorem dX7_opening_61 : decode cX7_opening 61 = .ok (.istore 5, 2) := by decide +kernel
theorem dX7_opening_63 : decode cX7_opening 63 = .ok (.aload_n 0, 1) := by decide +kernel
theorem dX7_opening_64 : decode cX7_opening 64 = .ok (.getfield 10, 3) := by decide +kernel
theorem dX7_opening_67 : decode cX7_opening 67 = .ok (.getfield 104, 3) := by decide +kernel
theorem dX7_opening_70 : decode cX7_opening 70 = .ok (.iload 4, 2) := by decide +kernel
theorem dX7_opening_72 : decode cX7_opening 72 = .ok (.iload_n 3, 1) := by decide +kernel
theorem dX7_opening_73 : decode cX7_opening 73 = .ok (.iastore, 1) := by decide +kernel
theorem dX7_opening_74 : decode cX7_opening 74 = .ok (.iload 5, 2) := by decide +kernel
theorem dX7_opening_76 : decode cX7_opening 76 = .ok (.ireturn, 1) := by decide +kernel
set_option maxRecDepth 20000 in
theorem ggX7_lay_X3_hasCell : GoodIn wsX7_lay wsX3_hasCell := goodIn_r _ [7, 8, 9, 10, 6, 11, 12, 13, 14, 15, 16, 17, 18, 19, 20, 68, 69, 70, 71, 72, 73, 74] (by decide +kernel) (by decide +kernel)
set_option maxRecDepth 20000 in
theorem gX7_lay_X3_hasCell : GoodIn wsX7_lay (wsV RX7 88 RX3 yX3_hasCell wsX3_hasCell) := goodIn_app (goodIn_of _ (by decide +kernel)) ggX7_lay_X3_hasCell
set_option maxRecDepth 20000 in
theorem ggX7_lay_X7_isSort : GoodIn wsX7_lay wsX7_isSort := goodIn_r _ [23, 24, 13, 14, 15] (by decide +kernel) (by decide +kernel)
set_option maxRecDepth 20000 in
theorem gX7_lay_X7_isSort : GoodIn wsX7_lay (va_wsS RX7 107 yX7_isSort wsX7_isSort) := goodIn_app (goodIn_of _ (by decide +kernel)) ggX7_lay_X7_isSort
set_option maxRecDepth 20000 in
theorem ggX7_lay_X7_isLength : GoodIn wsX7_lay wsX7_isLength := goodIn_r _ [27, 24, 13, 14, 15] (by decide +kernel) (by decide +kernel)
set_option maxRecDepth 20000 in
theorem gX7_lay_X7_isLength : GoodIn wsX7_lay (va_wsS RX7 111 yX7_isLength wsX7_isLength) := goodIn_app (goodIn_of _ (by decide +kernel)) ggX7_lay_X7_isLength
set_option maxRecDepth 20000 in
theorem ggX7_lay_X7_isThickness : GoodIn wsX7_lay wsX7_isThickness := goodIn_r _ [30, 24, 13, 14, 15] (by decide +kernel) (by decide +kernel)
set_option maxRecDepth 20000 in
theorem gX7_lay_X7_isThickness : GoodIn wsX7_lay (va_wsS RX7 114 yX7_isThickness wsX7_isThickness) := goodIn_app (goodIn_of _ (by decide +kernel)) ggX7_lay_X7_isThickness
set_option maxRecDepth 20000 in
theorem ggX7_lay_X7_cellOf : GoodIn wsX7_lay wsX7_cellOf := goodIn_r _ [33] (by decide +kernel) (by decide +kernel)
set_option maxRecDepth 20000 in
theorem gX7_lay_X7_cellOf : GoodIn wsX7_lay (va_wsS RX7 92 yX7_cellOf wsX7_cellOf) := goodIn_app (goodIn_of _ (by decide +kernel)) ggX7_lay_X7_cellOf
set_option maxRecDepth 20000 in
theorem ggX7_lay_X3_isOpening : GoodIn wsX7_lay wsX3_isOpening := goodIn_r _ [37, 38, 68, 69, 70, 71, 72, 73, 74] (by decide +kernel) (by decide +kernel)
set_option maxRecDepth 20000 in
theorem gX7_lay_X3_isOpening : GoodIn wsX7_lay (wsV RX7 117 RX3 yX3_isOpening wsX3_isOpening) := goodIn_app (goodIn_of _ (by decide +kernel)) ggX7_lay_X3_isOpening
set_option maxRecDepth 20000 in
theorem ggX7_lay_X1_add : GoodIn wsX7_lay wsX1_add := goodIn_r _ [43, 44, 45, 46, 47, 48, 49, 50, 51, 52, 53, 54, 55, 6, 56, 32, 14, 33, 57, 35, 36, 37, 38, 75, 76, 77, 78, 79, 80, 81, 82, 83, 84, 68, 69, 70, 71, 72, 73, 74] (by decide +kernel) (by decide +kernel)
set_option maxRecDepth 20000 in
theorem gX7_lay_X1_add : GoodIn wsX7_lay (wsV RX7 120 RX1 yX1_add wsX1_add) := goodIn_app (goodIn_of _ (by decide +kernel)) ggX7_lay_X1_add
theorem dX7_lay_0 : decode cX7_lay 0 = .ok (.aload_n 0, 1) := by decide +kernel
theorem dX7_lay_1 : decode cX7_lay 1 = .ok (.getfield 10, 3) := by decide +kernel
theorem dX7_lay_4 : decode cX7_lay 4 = .ok (.iload_n 1, 1) := by decide +kernel
theorem dX7_lay_5 : decode cX7_lay 5 = .ok (.iload_n 2, 1) := by decide +kernel
theorem dX7_lay_6 : decode cX7_lay 6 = .ok (.invokevirtual 88, 3) := by decide +kernel
theorem dX7_lay_9 : decode cX7_lay 9 = .ok (.ifCond .eq 11, 3) := by decide +kernel
theorem dX7_lay_12 : decode cX7_lay 12 = .ok (.iload 4, 2) := by decide +kernel
theorem dX7_lay_14 : decode cX7_lay 14 = .ok (.invokestatic 107, 3) := by decide +kernel
theorem dX7_lay_17 : decode cX7_lay 17 = .ok (.ifCond .ne 5, 3) := by decide +kernel
theorem dX7_lay_20 : decode cX7_lay 20 = .ok (.iconst (-1), 1) := by decide +kernel
theorem dX7_lay_21 : decode cX7_lay 21 = .ok (.ireturn, 1) := by decide +kernel
theorem dX7_lay_22 : decode cX7_lay 22 = .ok (.iload_n 3, 1) := by decide +kernel
theorem dX7_lay_23 : decode cX7_lay 23 = .ok (.invokestatic 111, 3) := by decide +kernel
theorem dX7_lay_26 : decode cX7_lay 26 = .ok (.ifCond .eq 11, 3) := by decide +kernel
theorem dX7_lay_29 : decode cX7_lay 29 = .ok (.iload 5, 2) := by decide +kernel
theorem dX7_lay_31 : decode cX7_lay 31 = .ok (.invokestatic 114, 3) := by decide +kernel
theorem dX7_lay_34 : decode cX7_lay 34 = .ok (.ifCond .ne 6, 3) := by decide +kernel
theorem dX7_lay_37 : decode cX7_lay 37 = .ok (.bipush (-2), 2) := by decide +kernel
theorem dX7_lay_39 : decode cX7_lay 39 = .ok (.ireturn, 1) := by decide +kernel
theorem dX7_lay_40 : decode cX7_lay 40 = .ok (.aload_n 0, 1) := by decide +kernel
theorem dX7_lay_41 : decode cX7_lay 41 = .ok (.getfield 10, 3) := by decide +kernel
theorem dX7_lay_44 : decode cX7_lay 44 = .ok (.iload_n 1, 1) := by decide +kernel
theorem dX7_lay_45 : decode cX7_lay 45 = .ok (.iload_n 2, 1) := by decide +kernel
theorem dX7_lay_46 : decode cX7_lay 46 = .ok (.invokestatic 92, 3) := by decide +kernel
theorem dX7_lay_49 : decode cX7_lay 49 = .ok (.invokevirtual 117, 3) := by decide +kernel
theorem dX7_lay_52 : decode cX7_lay 52 = .ok (.ifCond .eq 6, 3) := by decide +kernel
theorem dX7_lay_55 : decode cX7_lay 55 = .ok (.bipush (-3), 2) := by decide +kernel
theorem dX7_lay_57 : decode cX7_lay 57 = .ok (.ireturn, 1) := by decide +kernel
theorem dX7_lay_58 : decode cX7_lay 58 = .ok (.aload_n 0, 1) := by decide +kernel
theorem dX7_lay_59 : decode cX7_lay 59 = .ok (.getfield 21, 3) := by decide +kernel
theorem dX7_lay_62 : decode cX7_lay 62 = .ok (.iload_n 1, 1) := by decide +kernel
theorem dX7_lay_63 : decode cX7_lay 63 = .ok (.iload_n 2, 1) := by decide +kernel
theorem dX7_lay_64 : decode cX7_lay 64 = .ok (.iload_n 3, 1) := by decide +kernel
theorem dX7_lay_65 : decode cX7_lay 65 = .ok (.iload 4, 2) := by decide +kernel
theorem dX7_lay_67 : decode cX7_lay 67 = .ok (.iload 5, 2) := by decide +kernel
theorem dX7_lay_69 : decode cX7_lay 69 = .ok (.invokevirtual 120, 3) := by decide +kernel
theorem dX7_lay_72 : decode cX7_lay 72 = .ok (.ireturn, 1) := by decide +kernel
set_option maxRecDepth 20000 in
theorem ggX7_strip_X3_hasColumn : GoodIn wsX7_strip wsX3_hasColumn := goodIn_r _ [7, 8, 9, 10, 11, 59, 60, 61, 62, 63, 64, 65] (by decide +kernel) (by decide +kernel)
set_option maxRecDepth 20000 in
theorem gX7_strip_X3_hasColumn : GoodIn wsX7_strip (wsV RX7 124 RX3 yX3_hasColumn wsX3_hasColumn) := goodIn_app (goodIn_of _ (by decide +kernel)) ggX7_strip_X3_hasColumn
set_option maxRecDepth 20000 in
theorem ggX7_strip_X7_isWithin : GoodIn wsX7_strip wsX7_isWithin := goodIn_r _ [11] (by decide +kernel) (by decide +kernel)
set_option maxRecDepth 20000 in
theorem gX7_strip_X7_isWithin : GoodIn wsX7_strip (va_wsS RX7 70 yX7_isWithin wsX7_isWithin) := goodIn_app (goodIn_of _ (by decide +kernel)) ggX7_strip_X7_isWithin
set_option maxRecDepth 20000 in
theorem ggX7_strip_X1_removeGreatest : GoodIn wsX7_strip wsX1_removeGreatest := goodIn_r _ [17, 18, 19, 20, 21, 22, 16, 23, 24, 25, 10, 26, 27, 28, 29, 30, 31, 32, 33, 34, 35, 36, 37, 38, 39, 40, 41, 42, 43, 44, 45, 46, 47, 48, 66, 67, 68, 69, 70, 71, 72, 73, 74, 75, 59, 60, 61, 62, 63, 64, 65] (by decide +kernel) (by decide +kernel)
set_option maxRecDepth 20000 in
theorem gX7_strip_X1_removeGreatest : GoodIn wsX7_strip (wsV RX7 127 RX1 yX1_removeGreatest wsX1_removeGreatest) := goodIn_app (goodIn_of _ (by decide +kernel)) ggX7_strip_X1_removeGreatest
theorem dX7_strip_0 : decode cX7_strip 0 = .ok (.aload_n 0, 1) := by decide +kernel
theorem dX7_strip_1 : decode cX7_strip 1 = .ok (.getfield 10, 3) := by decide +kernel
theorem dX7_strip_4 : decode cX7_strip 4 = .ok (.iload_n 1, 1) := by decide +kernel
theorem dX7_strip_5 : decode cX7_strip 5 = .ok (.invokevirtual 124, 3) := by decide +kernel
theorem dX7_strip_8 : decode cX7_strip 8 = .ok (.ifCond .ne 5, 3) := by decide +kernel
theorem dX7_strip_11 : decode cX7_strip 11 = .ok (.iconst (-1), 1) := by decide +kernel
theorem dX7_strip_12 : decode cX7_strip 12 = .ok (.ireturn, 1) := by decide +kernel
theorem dX7_strip_13 : decode cX7_strip 13 = .ok (.iload_n 2, 1) := by decide +kernel
theorem dX7_strip_14 : decode cX7_strip 14 = .ok (.iconst 1, 1) := by decide +kernel
theorem dX7_strip_15 : decode cX7_strip 15 = .ok (.bipush 9, 2) := by decide +kernel
theorem dX7_strip_17 : decode cX7_strip 17 = .ok (.invokestatic 70, 3) := by decide +kernel
theorem dX7_strip_20 : decode cX7_strip 20 = .ok (.ifCond .ne 6, 3) := by decide +kernel
theorem dX7_strip_23 : decode cX7_strip 23 = .ok (.bipush (-2), 2) := by decide +kernel
theorem dX7_strip_25 : decode cX7_strip 25 = .ok (.ireturn, 1) := by decide +kernel
theorem dX7_strip_26 : decode cX7_strip 26 = .ok (.aload_n 0, 1) := by decide +kernel
theorem dX7_strip_27 : decode cX7_strip 27 = .ok (.getfield 21, 3) := by decide +kernel
theorem dX7_strip_30 : decode cX7_strip 30 = .ok (.iload_n 1, 1) := by decide +kernel
theorem dX7_strip_31 : decode cX7_strip 31 = .ok (.iload_n 2, 1) := by decide +kernel
theorem dX7_strip_32 : decode cX7_strip 32 = .ok (.invokevirtual 127, 3) := by decide +kernel
theorem dX7_strip_35 : decode cX7_strip 35 = .ok (.ireturn, 1) := by decide +kernel
set_option maxRecDepth 20000 in
theorem ggX7_about_X1_wasLaid : GoodIn wsX7_about wsX1_wasLaid := goodIn_r _ [11, 12, 13, 14, 15, 31, 32, 33, 34, 35, 36, 37, 38, 39, 40] (by decide +kernel) (by decide +kernel)
set_option maxRecDepth 20000 in
theorem gX7_about_X1_wasLaid : GoodIn wsX7_about (wsV RX7 130 RX1 yX1_wasLaid wsX1_wasLaid) := goodIn_app (goodIn_of _ (by decide +kernel)) ggX7_about_X1_wasLaid
set_option maxRecDepth 20000 in
theorem ggX7_about_X1_remainsOf : GoodIn wsX7_about wsX1_remainsOf := goodIn_r _ [19, 20, 31, 32, 33, 34, 35, 36, 37, 38, 39, 40] (by decide +kernel) (by decide +kernel)
set_option maxRecDepth 20000 in
theorem gX7_about_X1_remainsOf : GoodIn wsX7_about (wsV RX7 148 RX1 yX1_remainsOf wsX1_remainsOf) := goodIn_app (goodIn_of _ (by decide +kernel)) ggX7_about_X1_remainsOf
theorem dX7_about_0 : decode cX7_about 0 = .ok (.aload_n 0, 1) := by decide +kernel
theorem dX7_about_1 : decode cX7_about 1 = .ok (.getfield 21, 3) := by decide +kernel
theorem dX7_about_4 : decode cX7_about 4 = .ok (.iload_n 1, 1) := by decide +kernel
theorem dX7_about_5 : decode cX7_about 5 = .ok (.invokevirtual 130, 3) := by decide +kernel
theorem dX7_about_8 : decode cX7_about 8 = .ok (.ifCond .ne 5, 3) := by decide +kernel
theorem dX7_about_11 : decode cX7_about 11 = .ok (.iconst (-1), 1) := by decide +kernel
theorem dX7_about_12 : decode cX7_about 12 = .ok (.ireturn, 1) := by decide +kernel
theorem dX7_about_13 : decode cX7_about 13 = .ok (.iload_n 2, 1) := by decide +kernel
theorem dX7_about_14 : decode cX7_about 14 = .ok (.tableswitch 97 0 5 #[38, 48, 58, 68, 78, 88], 38) := by decide +kernel
theorem dX7_about_52 : decode cX7_about 52 = .ok (.aload_n 0, 1) := by decide +kernel
theorem dX7_about_53 : decode cX7_about 53 = .ok (.getfield 21, 3) := by decide +kernel
theorem dX7_about_56 : decode cX7_about 56 = .ok (.getfield 133, 3) := by decide +kernel
theorem dX7_about_59 : decode cX7_about 59 = .ok (.iload_n 1, 1) := by decide +kernel
theorem dX7_about_60 : decode cX7_about 60 = .ok (.iaload, 1) := by decide +kernel
theorem dX7_about_61 : decode cX7_about 61 = .ok (.ireturn, 1) := by decide +kernel
theorem dX7_about_62 : decode cX7_about 62 = .ok (.aload_n 0, 1) := by decide +kernel
theorem dX7_about_63 : decode cX7_about 63 = .ok (.getfield 21, 3) := by decide +kernel
theorem dX7_about_66 : decode cX7_about 66 = .ok (.getfield 136, 3) := by decide +kernel
theorem dX7_about_69 : decode cX7_about 69 = .ok (.iload_n 1, 1) := by decide +kernel
theorem dX7_about_70 : decode cX7_about 70 = .ok (.iaload, 1) := by decide +kernel
theorem dX7_about_71 : decode cX7_about 71 = .ok (.ireturn, 1) := by decide +kernel
theorem dX7_about_72 : decode cX7_about 72 = .ok (.aload_n 0, 1) := by decide +kernel
theorem dX7_about_73 : decode cX7_about 73 = .ok (.getfield 21, 3) := by decide +kernel
theorem dX7_about_76 : decode cX7_about 76 = .ok (.getfield 139, 3) := by decide +kernel
theorem dX7_about_79 : decode cX7_about 79 = .ok (.iload_n 1, 1) := by decide +kernel
theorem dX7_about_80 : decode cX7_about 80 = .ok (.iaload, 1) := by decide +kernel
theorem dX7_about_81 : decode cX7_about 81 = .ok (.ireturn, 1) := by decide +kernel
theorem dX7_about_82 : decode cX7_about 82 = .ok (.aload_n 0, 1) := by decide +kernel
theorem dX7_about_83 : decode cX7_about 83 = .ok (.getfield 21, 3) := by decide +kernel
theorem dX7_about_86 : decode cX7_about 86 = .ok (.getfield 142, 3) := by decide +kernel
theorem dX7_about_89 : decode cX7_about 89 = .ok (.iload_n 1, 1) := by decide +kernel
theorem dX7_about_90 : decode cX7_about 90 = .ok (.iaload, 1) := by decide +kernel
theorem dX7_about_91 : decode cX7_about 91 = .ok (.ireturn, 1) := by decide +kernel
theorem dX7_about_92 : decode cX7_about 92 = .ok (.aload_n 0, 1) := by decide +kernel
theorem dX7_about_93 : decode cX7_about 93 = .ok (.getfield 21, 3) := by decide +kernel
theorem dX7_about_96 : decode cX7_about 96 = .ok (.getfield 145, 3) := by decide +kernel
theorem dX7_about_99 : decode cX7_about 99 = .ok (.iload_n 1, 1) := by decide +kernel
theorem dX7_about_100 : decode cX7_about 100 = .ok (.iaload, 1) := by decide +kernel
theorem dX7_about_101 : decode cX7_about 101 = .ok (.ireturn, 1) := by decide +kernel
theorem dX7_about_102 : decode cX7_about 102 = .ok (.aload_n 0, 1) := by decide +kernel
theorem dX7_about_103 : decode cX7_about 103 = .ok (.getfield 21, 3) := by decide +kernel
theorem dX7_about_106 : decode cX7_about 106 = .ok (.iload_n 1, 1) := by decide +kernel
theorem dX7_about_107 : decode cX7_about 107 = .ok (.invokevirtual 148, 3) := by decide +kernel
theorem dX7_about_110 : decode cX7_about 110 = .ok (.ireturn, 1) := by decide +kernel
theorem dX7_about_111 : decode cX7_about 111 = .ok (.bipush (-2), 2) := by decide +kernel
theorem dX7_about_113 : decode cX7_about 113 = .ok (.ireturn, 1) := by decide +kernel
set_option maxRecDepth 20000 in
theorem ggX7_left_X1_wasLaid : GoodIn wsX7_left wsX1_wasLaid := goodIn_r _ [8, 9, 10, 11, 12, 29, 30, 31, 32, 33, 34, 35, 36, 37, 38] (by decide +kernel) (by decide +kernel)
set_option maxRecDepth 20000 in
theorem gX7_left_X1_wasLaid : GoodIn wsX7_left (wsV RX7 130 RX1 yX1_wasLaid wsX1_wasLaid) := goodIn_app (goodIn_of _ (by decide +kernel)) ggX7_left_X1_wasLaid
set_option maxRecDepth 20000 in
theorem ggX7_left_X3_hasRow : GoodIn wsX7_left wsX3_hasRow := goodIn_r _ [17, 18, 10, 11, 12, 39, 40, 41, 42, 43, 44, 45] (by decide +kernel) (by decide +kernel)
set_option maxRecDepth 20000 in
theorem gX7_left_X3_hasRow : GoodIn wsX7_left (wsV RX7 152 RX3 yX3_hasRow wsX3_hasRow) := goodIn_app (goodIn_of _ (by decide +kernel)) ggX7_left_X3_hasRow
theorem dX7_left_0 : decode cX7_left 0 = .ok (.aload_n 0, 1) := by decide +kernel
theorem dX7_left_1 : decode cX7_left 1 = .ok (.getfield 21, 3) := by decide +kernel
theorem dX7_left_4 : decode cX7_left 4 = .ok (.iload_n 1, 1) := by decide +kernel
theorem dX7_left_5 : decode cX7_left 5 = .ok (.invokevirtual 130, 3) := by decide +kernel
theorem dX7_left_8 : decode cX7_left 8 = .ok (.ifCond .eq 14, 3) := by decide +kernel
theorem dX7_left_11 : decode cX7_left 11 = .ok (.aload_n 0, 1) := by decide +kernel
theorem dX7_left_12 : decode cX7_left 12 = .ok (.getfield 10, 3) := by decide +kernel
theorem dX7_left_15 : decode cX7_left 15 = .ok (.iload_n 2, 1) := by decide +kernel
theorem dX7_left_16 : decode cX7_left 16 = .ok (.invokevirtual 152, 3) := by decide +kernel
theorem dX7_left_19 : decode cX7_left 19 = .ok (.ifCond .ne 5, 3) := by decide +kernel
theorem dX7_left_22 : decode cX7_left 22 = .ok (.iconst (-1), 1) := by decide +kernel
theorem dX7_left_23 : decode cX7_left 23 = .ok (.ireturn, 1) := by decide +kernel
theorem dX7_left_24 : decode cX7_left 24 = .ok (.aload_n 0, 1) := by decide +kernel
theorem dX7_left_25 : decode cX7_left 25 = .ok (.getfield 21, 3) := by decide +kernel
theorem dX7_left_28 : decode cX7_left 28 = .ok (.getfield 155, 3) := by decide +kernel
theorem dX7_left_31 : decode cX7_left 31 = .ok (.iload_n 1, 1) := by decide +kernel
theorem dX7_left_32 : decode cX7_left 32 = .ok (.bipush 6, 2) := by decide +kernel
theorem dX7_left_34 : decode cX7_left 34 = .ok (.imul, 1) := by decide +kernel
theorem dX7_left_35 : decode cX7_left 35 = .ok (.iload_n 2, 1) := by decide +kernel
theorem dX7_left_36 : decode cX7_left 36 = .ok (.iadd, 1) := by decide +kernel
theorem dX7_left_37 : decode cX7_left 37 = .ok (.iaload, 1) := by decide +kernel
theorem dX7_left_38 : decode cX7_left 38 = .ok (.ireturn, 1) := by decide +kernel
set_option maxRecDepth 20000 in
theorem ggX7_top_X3_hasCell : GoodIn wsX7_top wsX3_hasCell := goodIn_r _ [8, 9, 10, 11, 7, 12, 13, 14, 15, 16, 17, 18, 19, 20, 21, 55, 56, 57, 58, 59, 60, 61] (by decide +kernel) (by decide +kernel)
set_option maxRecDepth 20000 in
theorem gX7_top_X3_hasCell : GoodIn wsX7_top (wsV RX7 88 RX3 yX3_hasCell wsX3_hasCell) := goodIn_app (goodIn_of _ (by decide +kernel)) ggX7_top_X3_hasCell
set_option maxRecDepth 20000 in
theorem ggX7_top_X7_cellOf : GoodIn wsX7_top wsX7_cellOf := goodIn_r _ [24] (by decide +kernel) (by decide +kernel)
set_option maxRecDepth 20000 in
theorem gX7_top_X7_cellOf : GoodIn wsX7_top (va_wsS RX7 92 yX7_cellOf wsX7_cellOf) := goodIn_app (goodIn_of _ (by decide +kernel)) ggX7_top_X7_cellOf
set_option maxRecDepth 20000 in
theorem ggX7_top_X7_greatest : GoodIn wsX7_top wsX7_greatest := goodIn_r _ [27, 28, 29, 30, 31, 32, 33, 34] (by decide +kernel) (by decide +kernel)
set_option maxRecDepth 20000 in
theorem gX7_top_X7_greatest : GoodIn wsX7_top (va_wsS RX7 158 yX7_greatest wsX7_greatest) := goodIn_app (goodIn_of _ (by decide +kernel)) ggX7_top_X7_greatest
theorem dX7_top_0 : decode cX7_top 0 = .ok (.aload_n 0, 1) := by decide +kernel
theorem dX7_top_1 : decode cX7_top 1 = .ok (.getfield 10, 3) := by decide +kernel
theorem dX7_top_4 : decode cX7_top 4 = .ok (.iload_n 1, 1) := by decide +kernel
theorem dX7_top_5 : decode cX7_top 5 = .ok (.iload_n 2, 1) := by decide +kernel
theorem dX7_top_6 : decode cX7_top 6 = .ok (.invokevirtual 88, 3) := by decide +kernel
theorem dX7_top_9 : decode cX7_top 9 = .ok (.ifCond .ne 5, 3) := by decide +kernel
theorem dX7_top_12 : decode cX7_top 12 = .ok (.iconst (-1), 1) := by decide +kernel
theorem dX7_top_13 : decode cX7_top 13 = .ok (.ireturn, 1) := by decide +kernel
theorem dX7_top_14 : decode cX7_top 14 = .ok (.aload_n 0, 1) := by decide +kernel
theorem dX7_top_15 : decode cX7_top 15 = .ok (.getfield 21, 3) := by decide +kernel
theorem dX7_top_18 : decode cX7_top 18 = .ok (.getfield 100, 3) := by decide +kernel
theorem dX7_top_21 : decode cX7_top 21 = .ok (.iload_n 1, 1) := by decide +kernel
theorem dX7_top_22 : decode cX7_top 22 = .ok (.iload_n 2, 1) := by decide +kernel
theorem dX7_top_23 : decode cX7_top 23 = .ok (.invokestatic 92, 3) := by decide +kernel
theorem dX7_top_26 : decode cX7_top 26 = .ok (.laload, 1) := by decide +kernel
theorem dX7_top_27 : decode cX7_top 27 = .ok (.invokestatic 158, 3) := by decide +kernel
theorem dX7_top_30 : decode cX7_top 30 = .ok (.ireturn, 1) := by decide +kernel
set_option maxRecDepth 20000 in
theorem ggX7_depth_X3_hasCell : GoodIn wsX7_depth wsX3_hasCell := goodIn_r _ [8, 9, 10, 11, 7, 12, 13, 14, 15, 16, 17, 18, 19, 20, 21, 64, 65, 66, 67, 68, 69, 70] (by decide +kernel) (by decide +kernel)
set_option maxRecDepth 20000 in
theorem gX7_depth_X3_hasCell : GoodIn wsX7_depth (wsV RX7 88 RX3 yX3_hasCell wsX3_hasCell) := goodIn_app (goodIn_of _ (by decide +kernel)) ggX7_depth_X3_hasCell
set_option maxRecDepth 20000 in
theorem ggX7_depth_X7_cellOf : GoodIn wsX7_depth wsX7_cellOf := goodIn_r _ [24] (by decide +kernel) (by decide +kernel)
set_option maxRecDepth 20000 in
theorem gX7_depth_X7_cellOf : GoodIn wsX7_depth (va_wsS RX7 92 yX7_cellOf wsX7_cellOf) := goodIn_app (goodIn_of _ (by decide +kernel)) ggX7_depth_X7_cellOf
set_option maxRecDepth 20000 in
theorem ggX7_depth_J13_bitCount_95d88 : GoodIn wsX7_depth wsJ13_bitCount_95d88 := goodIn_r _ [28, 29, 30, 31] (by decide +kernel) (by decide +kernel)
set_option maxRecDepth 20000 in
theorem gX7_depth_J13_bitCount_95d88 : GoodIn wsX7_depth (va_wsS RX7 162 yJ13_bitCount_95d88 wsJ13_bitCount_95d88) := goodIn_app (goodIn_of _ (by decide +kernel)) ggX7_depth_J13_bitCount_95d88
set_option maxRecDepth 20000 in
theorem ggX7_depth_X1_thicknessAt : GoodIn wsX7_depth wsX1_thicknessAt := goodIn_r _ [36, 37, 38, 39, 40, 15, 41, 42, 43, 54, 55, 56, 57, 58, 59, 60, 61, 62, 63] (by decide +kernel) (by decide +kernel)
set_option maxRecDepth 20000 in
theorem gX7_depth_X1_thicknessAt : GoodIn wsX7_depth (wsV RX7 167 RX1 yX1_thicknessAt wsX1_thicknessAt) := goodIn_app (goodIn_of _ (by decide +kernel)) ggX7_depth_X1_thicknessAt
theorem dX7_depth_0 : decode cX7_depth 0 = .ok (.aload_n 0, 1) := by decide +kernel
theorem dX7_depth_1 : decode cX7_depth 1 = .ok (.getfield 10, 3) := by decide +kernel
theorem dX7_depth_4 : decode cX7_depth 4 = .ok (.iload_n 1, 1) := by decide +kernel
theorem dX7_depth_5 : decode cX7_depth 5 = .ok (.iload_n 2, 1) := by decide +kernel
theorem dX7_depth_6 : decode cX7_depth 6 = .ok (.invokevirtual 88, 3) := by decide +kernel
theorem dX7_depth_9 : decode cX7_depth 9 = .ok (.ifCond .ne 5, 3) := by decide +kernel
theorem dX7_depth_12 : decode cX7_depth 12 = .ok (.iconst (-1), 1) := by decide +kernel
theorem dX7_depth_13 : decode cX7_depth 13 = .ok (.ireturn, 1) := by decide +kernel
theorem dX7_depth_14 : decode cX7_depth 14 = .ok (.iload_n 3, 1) := by decide +kernel
theorem dX7_depth_15 : decode cX7_depth 15 = .ok (.lookupswitch 55 #[(0, 25), (1, 42)], 25) := by decide +kernel
theorem dX7_depth_40 : decode cX7_depth 40 = .ok (.aload_n 0, 1) := by decide +kernel
theorem dX7_depth_41 : decode cX7_depth 41 = .ok (.getfield 21, 3) := by decide +kernel
theorem dX7_depth_44 : decode cX7_depth 44 = .ok (.getfield 100, 3) := by decide +kernel
theorem dX7_depth_47 : decode cX7_depth 47 = .ok (.iload_n 1, 1) := by decide +kernel
theorem dX7_depth_48 : decode cX7_depth 48 = .ok (.iload_n 2, 1) := by decide +kernel
theorem dX7_depth_49 : decode cX7_depth 49 = .ok (.invokestatic 92, 3) := by decide +kernel
theorem dX7_depth_52 : decode cX7_depth 52 = .ok (.laload, 1) := by decide +kernel
theorem dX7_depth_53 : decode cX7_depth 53 = .ok (.invokestatic 162, 3) := by decide +kernel
theorem dX7_depth_56 : decode cX7_depth 56 = .ok (.ireturn, 1) := by decide +kernel
theorem dX7_depth_57 : decode cX7_depth 57 = .ok (.aload_n 0, 1) := by decide +kernel
theorem dX7_depth_58 : decode cX7_depth 58 = .ok (.getfield 21, 3) := by decide +kernel
theorem dX7_depth_61 : decode cX7_depth 61 = .ok (.iload_n 1, 1) := by decide +kernel
theorem dX7_depth_62 : decode cX7_depth 62 = .ok (.iload_n 2, 1) := by decide +kernel
theorem dX7_depth_63 : decode cX7_depth 63 = .ok (.invokestatic 92, 3) := by decide +kernel
theorem dX7_depth_66 : decode cX7_depth 66 = .ok (.invokevirtual 167, 3) := by decide +kernel
theorem dX7_depth_69 : decode cX7_depth 69 = .ok (.ireturn, 1) := by decide +kernel
theorem dX7_depth_70 : decode cX7_depth 70 = .ok (.bipush (-2), 2) := by decide +kernel
theorem dX7_depth_72 : decode cX7_depth 72 = .ok (.ireturn, 1) := by decide +kernel
set_option maxRecDepth 20000 in
theorem ggX7_drop_X3_hasCell : GoodIn wsX7_drop wsX3_hasCell := goodIn_r _ [9, 10, 11, 12, 8, 13, 14, 15, 16, 17, 18, 19, 20, 21, 22, 116, 117, 118, 119, 120, 121, 122] (by decide +kernel) (by decide +kernel)
set_option maxRecDepth 20000 in
theorem gX7_drop_X3_hasCell : GoodIn wsX7_drop (wsV RX7 88 RX3 yX3_hasCell wsX3_hasCell) := goodIn_app (goodIn_of _ (by decide +kernel)) ggX7_drop_X3_hasCell
set_option maxRecDepth 20000 in
theorem ggX7_drop_X7_cellOf : GoodIn wsX7_drop wsX7_cellOf := goodIn_r _ [25] (by decide +kernel) (by decide +kernel)
set_option maxRecDepth 20000 in
theorem gX7_drop_X7_cellOf : GoodIn wsX7_drop (va_wsS RX7 92 yX7_cellOf wsX7_cellOf) := goodIn_app (goodIn_of _ (by decide +kernel)) ggX7_drop_X7_cellOf
set_option maxRecDepth 20000 in
theorem ggX7_drop_X4_follow : GoodIn wsX7_drop wsX4_follow := goodIn_r _ [30, 31, 32, 33, 34, 35, 36, 37, 38, 39, 40, 41, 29, 42, 43, 16, 44, 45, 46, 47, 48, 49, 50, 51, 52, 53, 54, 8, 55, 56, 57, 58, 59, 60, 61, 62, 63, 64, 65, 66, 67, 68, 69, 70, 71, 72, 73, 74, 75, 76, 77, 78, 79, 80, 81, 82, 83, 84, 85, 86, 87, 88, 89, 90, 91, 92, 93, 94, 95, 11, 12, 13, 14, 15, 17, 24, 25, 123, 124, 125, 126, 127, 128, 129, 130, 131, 116, 117, 118, 119, 120, 121, 122] (by decide +kernel) (by decide +kernel)
set_option maxRecDepth 20000 in
theorem gX7_drop_X4_follow : GoodIn wsX7_drop (wsV RX7 170 RX4 yX4_follow wsX4_follow) := goodIn_app (goodIn_of _ (by decide +kernel)) ggX7_drop_X4_follow
theorem dX7_drop_0 : decode cX7_drop 0 = .ok (.aload_n 0, 1) := by decide +kernel
theorem dX7_drop_1 : decode cX7_drop 1 = .ok (.getfield 10, 3) := by decide +kernel
theorem dX7_drop_4 : decode cX7_drop 4 = .ok (.iload_n 1, 1) := by decide +kernel
theorem dX7_drop_5 : decode cX7_drop 5 = .ok (.iload_n 2, 1) := by decide +kernel
theorem dX7_drop_6 : decode cX7_drop 6 = .ok (.invokevirtual 88, 3) := by decide +kernel
theorem dX7_drop_9 : decode cX7_drop 9 = .ok (.ifCond .ne 5, 3) := by decide +kernel
theorem dX7_drop_12 : decode cX7_drop 12 = .ok (.iconst (-1), 1) := by decide +kernel
theorem dX7_drop_13 : decode cX7_drop 13 = .ok (.ireturn, 1) := by decide +kernel
theorem dX7_drop_14 : decode cX7_drop 14 = .ok (.aload_n 0, 1) := by decide +kernel
theorem dX7_drop_15 : decode cX7_drop 15 = .ok (.getfield 41, 3) := by decide +kernel
theorem dX7_drop_18 : decode cX7_drop 18 = .ok (.aload_n 0, 1) := by decide +kernel
theorem dX7_drop_19 : decode cX7_drop 19 = .ok (.getfield 21, 3) := by decide +kernel
theorem dX7_drop_22 : decode cX7_drop 22 = .ok (.getfield 100, 3) := by decide +kernel
theorem dX7_drop_25 : decode cX7_drop 25 = .ok (.iload_n 1, 1) := by decide +kernel
theorem dX7_drop_26 : decode cX7_drop 26 = .ok (.iload_n 2, 1) := by decide +kernel
theorem dX7_drop_27 : decode cX7_drop 27 = .ok (.invokestatic 92, 3) := by decide +kernel
theorem dX7_drop_30 : decode cX7_drop 30 = .ok (.invokevirtual 170, 3) := by decide +kernel
theorem dX7_drop_33 : decode cX7_drop 33 = .ok (.ireturn, 1) := by decide +kernel
set_option maxRecDepth 20000 in
theorem ggX7_way_X3_hasCell : GoodIn wsX7_way wsX3_hasCell := goodIn_r _ [11, 12, 13, 14, 10, 15, 16, 17, 18, 19, 20, 21, 22, 23, 24, 128, 129, 130, 131, 132, 133, 134] (by decide +kernel) (by decide +kernel)
set_option maxRecDepth 20000 in
theorem gX7_way_X3_hasCell : GoodIn wsX7_way (wsV RX7 88 RX3 yX3_hasCell wsX3_hasCell) := goodIn_app (goodIn_of _ (by decide +kernel)) ggX7_way_X3_hasCell
set_option maxRecDepth 20000 in
theorem ggX7_way_X7_cellOf : GoodIn wsX7_way wsX7_cellOf := goodIn_r _ [27] (by decide +kernel) (by decide +kernel)
set_option maxRecDepth 20000 in
theorem gX7_way_X7_cellOf : GoodIn wsX7_way (va_wsS RX7 92 yX7_cellOf wsX7_cellOf) := goodIn_app (goodIn_of _ (by decide +kernel)) ggX7_way_X7_cellOf
set_option maxRecDepth 20000 in
theorem ggX7_way_X4_follow : GoodIn wsX7_way wsX4_follow := goodIn_r _ [32, 33, 34, 35, 36, 37, 38, 39, 40, 41, 42, 43, 31, 44, 45, 18, 46, 47, 48, 49, 50, 51, 52, 53, 54, 55, 56, 10, 57, 58, 59, 60, 61, 62, 63, 64, 65, 66, 67, 68, 69, 70, 71, 72, 73, 74, 75, 76, 77, 78, 79, 80, 81, 82, 83, 84, 85, 86, 87, 88, 89, 90, 91, 92, 93, 94, 95, 96, 97, 13, 14, 15, 16, 17, 19, 26, 27, 119, 120, 121, 122, 123, 124, 125, 126, 127, 128, 129, 130, 131, 132, 133, 134] (by decide +kernel) (by decide +kernel)
set_option maxRecDepth 20000 in
theorem gX7_way_X4_follow : GoodIn wsX7_way (wsV RX7 170 RX4 yX4_follow wsX4_follow) := goodIn_app (goodIn_of _ (by decide +kernel)) ggX7_way_X4_follow
set_option maxRecDepth 20000 in
theorem ggX7_way_X7_isWithin : GoodIn wsX7_way wsX7_isWithin := goodIn_r _ [19] (by decide +kernel) (by decide +kernel)
set_option maxRecDepth 20000 in
theorem gX7_way_X7_isWithin : GoodIn wsX7_way (va_wsS RX7 70 yX7_isWithin wsX7_isWithin) := goodIn_app (goodIn_of _ (by decide +kernel)) ggX7_way_X7_isWithin
theorem dX7_way_0 : decode cX7_way 0 = .ok (.aload_n 0, 1) := by decide +kernel
theorem dX7_way_1 : decode cX7_way 1 = .ok (.getfield 10, 3) := by decide +kernel
theorem dX7_way_4 : decode cX7_way 4 = .ok (.iload_n 1, 1) := by decide +kernel
theorem dX7_way_5 : decode cX7_way 5 = .ok (.iload_n 2, 1) := by decide +kernel
theorem dX7_way_6 : decode cX7_way 6 = .ok (.invokevirtual 88, 3) := by decide +kernel
theorem dX7_way_9 : decode cX7_way 9 = .ok (.ifCond .ne 5, 3) := by decide +kernel
theorem dX7_way_12 : decode cX7_way 12 = .ok (.iconst (-1), 1) := by decide +kernel
theorem dX7_way_13 : decode cX7_way 13 = .ok (.ireturn, 1) := by decide +kernel
theorem dX7_way_14 : decode cX7_way 14 = .ok (.aload_n 0, 1) := by decide +kernel
theorem dX7_way_15 : decode cX7_way 15 = .ok (.getfield 41, 3) := by decide +kernel
theorem dX7_way_18 : decode cX7_way 18 = .ok (.aload_n 0, 1) := by decide +kernel
theorem dX7_way_19 : decode cX7_way 19 = .ok (.getfield 21, 3) := by decide +kernel
theorem dX7_way_22 : decode cX7_way 22 = .ok (.getfield 100, 3) := by decide +kernel
theorem dX7_way_25 : decode cX7_way 25 = .ok (.iload_n 1, 1) := by decide +kernel
theorem dX7_way_26 : decode cX7_way 26 = .ok (.iload_n 2, 1) := by decide +kernel
theorem dX7_way_27 : decode cX7_way 27 = .ok (.invokestatic 92, 3) := by decide +kernel
theorem dX7_way_30 : decode cX7_way 30 = .ok (.invokevirtual 170, 3) := by decide +kernel
theorem dX7_way_33 : decode cX7_way 33 = .ok (.pop, 1) := by decide +kernel
theorem dX7_way_34 : decode cX7_way 34 = .ok (.iload_n 3, 1) := by decide +kernel
theorem dX7_way_35 : decode cX7_way 35 = .ok (.iconst 0, 1) := by decide +kernel
theorem dX7_way_36 : decode cX7_way 36 = .ok (.aload_n 0, 1) := by decide +kernel
theorem dX7_way_37 : decode cX7_way 37 = .ok (.getfield 41, 3) := by decide +kernel
theorem dX7_way_40 : decode cX7_way 40 = .ok (.getfield 174, 3) := by decide +kernel
theorem dX7_way_43 : decode cX7_way 43 = .ok (.iconst 1, 1) := by decide +kernel
theorem dX7_way_44 : decode cX7_way 44 = .ok (.isub, 1) := by decide +kernel
theorem dX7_way_45 : decode cX7_way 45 = .ok (.invokestatic 70, 3) := by decide +kernel
theorem dX7_way_48 : decode cX7_way 48 = .ok (.ifCond .eq 15, 3) := by decide +kernel
theorem dX7_way_51 : decode cX7_way 51 = .ok (.aload_n 0, 1) := by decide +kernel
theorem dX7_way_52 : decode cX7_way 52 = .ok (.getfield 41, 3) := by decide +kernel
theorem dX7_way_55 : decode cX7_way 55 = .ok (.getfield 177, 3) := by decide +kernel
theorem dX7_way_58 : decode cX7_way 58 = .ok (.iload_n 3, 1) := by decide +kernel
theorem dX7_way_59 : decode cX7_way 59 = .ok (.iaload, 1) := by decide +kernel
theorem dX7_way_60 : decode cX7_way 60 = .ok (.goto 5, 3) := by decide +kernel
theorem dX7_way_63 : decode cX7_way 63 = .ok (.bipush (-9), 2) := by decide +kernel
theorem dX7_way_65 : decode cX7_way 65 = .ok (.ireturn, 1) := by decide +kernel
set_option maxRecDepth 20000 in
theorem ggX7_wet_X3_hasCell : GoodIn wsX7_wet wsX3_hasCell := goodIn_r _ [9, 10, 11, 12, 8, 13, 14, 15, 16, 17, 18, 19, 20, 21, 22, 122, 123, 124, 125, 126, 127, 128] (by decide +kernel) (by decide +kernel)
set_option maxRecDepth 20000 in
theorem gX7_wet_X3_hasCell : GoodIn wsX7_wet (wsV RX7 88 RX3 yX3_hasCell wsX3_hasCell) := goodIn_app (goodIn_of _ (by decide +kernel)) ggX7_wet_X3_hasCell
set_option maxRecDepth 20000 in
theorem ggX7_wet_X7_cellOf : GoodIn wsX7_wet wsX7_cellOf := goodIn_r _ [25] (by decide +kernel) (by decide +kernel)
set_option maxRecDepth 20000 in
theorem gX7_wet_X7_cellOf : GoodIn wsX7_wet (va_wsS RX7 92 yX7_cellOf wsX7_cellOf) := goodIn_app (goodIn_of _ (by decide +kernel)) ggX7_wet_X7_cellOf
set_option maxRecDepth 20000 in
theorem ggX7_wet_X4_countIn : GoodIn wsX7_wet wsX4_countIn := goodIn_r _ [30, 31, 32, 33, 34, 35, 36, 29, 37, 38, 39, 40, 41, 42, 43, 44, 45, 46, 47, 48, 49, 16, 50, 51, 52, 53, 54, 55, 56, 57, 58, 59, 60, 8, 61, 62, 63, 64, 65, 66, 67, 68, 69, 70, 71, 72, 73, 74, 75, 76, 77, 78, 79, 80, 81, 82, 83, 84, 85, 86, 87, 88, 89, 90, 91, 92, 93, 94, 95, 96, 97, 98, 99, 100, 101, 11, 12, 13, 14, 15, 17, 24, 25, 129, 130, 131, 132, 133, 134, 135, 136, 137, 122, 123, 124, 125, 126, 127, 128] (by decide +kernel) (by decide +kernel)
set_option maxRecDepth 20000 in
theorem gX7_wet_X4_countIn : GoodIn wsX7_wet (wsV RX7 180 RX4 yX4_countIn wsX4_countIn) := goodIn_app (goodIn_of _ (by decide +kernel)) ggX7_wet_X4_countIn
theorem dX7_wet_0 : decode cX7_wet 0 = .ok (.aload_n 0, 1) := by decide +kernel
theorem dX7_wet_1 : decode cX7_wet 1 = .ok (.getfield 10, 3) := by decide +kernel
theorem dX7_wet_4 : decode cX7_wet 4 = .ok (.iload_n 1, 1) := by decide +kernel
theorem dX7_wet_5 : decode cX7_wet 5 = .ok (.iload_n 2, 1) := by decide +kernel
theorem dX7_wet_6 : decode cX7_wet 6 = .ok (.invokevirtual 88, 3) := by decide +kernel
theorem dX7_wet_9 : decode cX7_wet 9 = .ok (.ifCond .ne 5, 3) := by decide +kernel
theorem dX7_wet_12 : decode cX7_wet 12 = .ok (.iconst (-1), 1) := by decide +kernel
theorem dX7_wet_13 : decode cX7_wet 13 = .ok (.ireturn, 1) := by decide +kernel
theorem dX7_wet_14 : decode cX7_wet 14 = .ok (.aload_n 0, 1) := by decide +kernel
theorem dX7_wet_15 : decode cX7_wet 15 = .ok (.getfield 41, 3) := by decide +kernel
theorem dX7_wet_18 : decode cX7_wet 18 = .ok (.aload_n 0, 1) := by decide +kernel
theorem dX7_wet_19 : decode cX7_wet 19 = .ok (.getfield 21, 3) := by decide +kernel
theorem dX7_wet_22 : decode cX7_wet 22 = .ok (.getfield 100, 3) := by decide +kernel
theorem dX7_wet_25 : decode cX7_wet 25 = .ok (.iload_n 1, 1) := by decide +kernel
theorem dX7_wet_26 : decode cX7_wet 26 = .ok (.iload_n 2, 1) := by decide +kernel
theorem dX7_wet_27 : decode cX7_wet 27 = .ok (.invokestatic 92, 3) := by decide +kernel
theorem dX7_wet_30 : decode cX7_wet 30 = .ok (.invokevirtual 180, 3) := by decide +kernel
theorem dX7_wet_33 : decode cX7_wet 33 = .ok (.ireturn, 1) := by decide +kernel
set_option maxRecDepth 20000 in
theorem ggX7_dry_X4_firstWet : GoodIn wsX7_dry wsX4_firstWet := goodIn_r _ [8, 9, 10, 11, 12, 13, 14, 15, 16, 17, 18, 7, 19, 20, 21, 22, 23, 24, 25, 26, 27, 28, 29, 30, 31, 32, 33, 34, 35, 36, 37, 38, 39, 40, 41, 42, 43, 44, 45, 46, 47, 48, 49, 50, 51, 52, 53, 54, 55, 56, 57, 58, 59, 60, 61, 62, 63, 64, 65, 66, 67, 68, 69, 70, 71, 72, 73, 74, 75, 76, 77, 78, 79, 80, 81, 82, 83, 84, 85, 86, 87, 88, 89, 90, 91, 92, 93, 114, 115, 116, 117, 118, 119, 120, 121, 122, 123, 124, 125, 126, 127, 128, 129] (by decide +kernel) (by decide +kernel)
set_option maxRecDepth 20000 in
theorem gX7_dry_X4_firstWet : GoodIn wsX7_dry (wsV RX7 183 RX4 yX4_firstWet wsX4_firstWet) := goodIn_app (goodIn_of _ (by decide +kernel)) ggX7_dry_X4_firstWet
theorem dX7_dry_0 : decode cX7_dry 0 = .ok (.aload_n 0, 1) := by decide +kernel
theorem dX7_dry_1 : decode cX7_dry 1 = .ok (.getfield 41, 3) := by decide +kernel
theorem dX7_dry_4 : decode cX7_dry 4 = .ok (.aload_n 0, 1) := by decide +kernel
theorem dX7_dry_5 : decode cX7_dry 5 = .ok (.getfield 21, 3) := by decide +kernel
theorem dX7_dry_8 : decode cX7_dry 8 = .ok (.getfield 100, 3) := by decide +kernel
theorem dX7_dry_11 : decode cX7_dry 11 = .ok (.invokevirtual 183, 3) := by decide +kernel
theorem dX7_dry_14 : decode cX7_dry 14 = .ok (.bipush (-9), 2) := by decide +kernel
theorem dX7_dry_16 : decode cX7_dry 16 = .ok (.if_icmp .ne 7, 3) := by decide +kernel
theorem dX7_dry_19 : decode cX7_dry 19 = .ok (.iconst 1, 1) := by decide +kernel
theorem dX7_dry_20 : decode cX7_dry 20 = .ok (.goto 4, 3) := by decide +kernel
theorem dX7_dry_23 : decode cX7_dry 23 = .ok (.iconst 0, 1) := by decide +kernel
theorem dX7_dry_24 : decode cX7_dry 24 = .ok (.ireturn, 1) := by decide +kernel
set_option maxRecDepth 20000 in
theorem ggX7_off_X3_hasColumn : GoodIn wsX7_off wsX3_hasColumn := goodIn_r _ [9, 10, 11, 12, 13, 112, 113, 114, 115, 116, 117, 118] (by decide +kernel) (by decide +kernel)
set_option maxRecDepth 20000 in
theorem gX7_off_X3_hasColumn : GoodIn wsX7_off (wsV RX7 124 RX3 yX3_hasColumn wsX3_hasColumn) := goodIn_app (goodIn_of _ (by decide +kernel)) ggX7_off_X3_hasColumn
set_option maxRecDepth 20000 in
theorem ggX7_off_X4_countOff : GoodIn wsX7_off wsX4_countOff := goodIn_r _ [18, 19, 20, 21, 22, 23, 24, 25, 17, 26, 27, 28, 29, 30, 31, 32, 33, 34, 35, 36, 37, 12, 38, 39, 40, 41, 42, 43, 44, 45, 46, 47, 48, 8, 49, 50, 51, 52, 53, 54, 55, 56, 57, 58, 59, 60, 61, 62, 63, 64, 65, 66, 67, 68, 69, 70, 71, 72, 73, 74, 75, 76, 77, 78, 79, 80, 81, 82, 83, 84, 85, 86, 87, 88, 89, 6, 7, 9, 10, 11, 13, 90, 91, 119, 120, 121, 122, 123, 124, 125, 126, 127, 112, 113, 114, 115, 116, 117, 118] (by decide +kernel) (by decide +kernel)
set_option maxRecDepth 20000 in
theorem gX7_off_X4_countOff : GoodIn wsX7_off (wsV RX7 187 RX4 yX4_countOff wsX4_countOff) := goodIn_app (goodIn_of _ (by decide +kernel)) ggX7_off_X4_countOff
theorem dX7_off_0 : decode cX7_off 0 = .ok (.aload_n 0, 1) := by decide +kernel
theorem dX7_off_1 : decode cX7_off 1 = .ok (.getfield 10, 3) := by decide +kernel
theorem dX7_off_4 : decode cX7_off 4 = .ok (.iload_n 1, 1) := by decide +kernel
theorem dX7_off_5 : decode cX7_off 5 = .ok (.invokevirtual 124, 3) := by decide +kernel
theorem dX7_off_8 : decode cX7_off 8 = .ok (.ifCond .ne 5, 3) := by decide +kernel
theorem dX7_off_11 : decode cX7_off 11 = .ok (.iconst (-1), 1) := by decide +kernel
theorem dX7_off_12 : decode cX7_off 12 = .ok (.ireturn, 1) := by decide +kernel
theorem dX7_off_13 : decode cX7_off 13 = .ok (.aload_n 0, 1) := by decide +kernel
theorem dX7_off_14 : decode cX7_off 14 = .ok (.getfield 41, 3) := by decide +kernel
theorem dX7_off_17 : decode cX7_off 17 = .ok (.aload_n 0, 1) := by decide +kernel
theorem dX7_off_18 : decode cX7_off 18 = .ok (.getfield 21, 3) := by decide +kernel
theorem dX7_off_21 : decode cX7_off 21 = .ok (.getfield 100, 3) := by decide +kernel
theorem dX7_off_24 : decode cX7_off 24 = .ok (.iload_n 1, 1) := by decide +kernel
theorem dX7_off_25 : decode cX7_off 25 = .ok (.invokevirtual 187, 3) := by decide +kernel
theorem dX7_off_28 : decode cX7_off 28 = .ok (.ireturn, 1) := by decide +kernel
set_option maxRecDepth 20000 in
theorem ggX7_years_X7_isWithin : GoodIn wsX7_years wsX7_isWithin := goodIn_r _ [5] (by decide +kernel) (by decide +kernel)
set_option maxRecDepth 20000 in
theorem gX7_years_X7_isWithin : GoodIn wsX7_years (va_wsS RX7 70 yX7_isWithin wsX7_isWithin) := goodIn_app (goodIn_of _ (by decide +kernel)) ggX7_years_X7_isWithin
set_option maxRecDepth 20000 in
theorem ggX7_years_X1_weather : GoodIn wsX7_years wsX1_weather := goodIn_r _ [10, 11, 12, 13, 14, 15, 16, 4, 17, 18, 19, 20, 21, 22, 23, 24, 25, 26, 27, 9, 28, 29, 30, 31, 32, 33, 34, 35, 36, 37, 48, 49, 50, 51, 52, 53, 54, 55, 56, 57, 58, 59, 60, 61, 62, 63, 64] (by decide +kernel) (by decide +kernel)
set_option maxRecDepth 20000 in
theorem gX7_years_X1_weather : GoodIn wsX7_years (wsV RX7 190 RX1 yX1_weather wsX1_weather) := goodIn_app (goodIn_of _ (by decide +kernel)) ggX7_years_X1_weather
theorem dX7_years_0 : decode cX7_years 0 = .ok (.iload_n 1, 1) := by decide +kernel
theorem dX7_years_1 : decode cX7_years 1 = .ok (.iconst 1, 1) := by decide +kernel
theorem dX7_years_2 : decode cX7_years 2 = .ok (.bipush 99, 2) := by decide +kernel
theorem dX7_years_4 : decode cX7_years 4 = .ok (.invokestatic 70, 3) := by decide +kernel
theorem dX7_years_7 : decode cX7_years 7 = .ok (.ifCond .ne 6, 3) := by decide +kernel
theorem dX7_years_10 : decode cX7_years 10 = .ok (.bipush (-2), 2) := by decide +kernel
theorem dX7_years_12 : decode cX7_years 12 = .ok (.ireturn, 1) := by decide +kernel
theorem dX7_years_13 : decode cX7_years 13 = .ok (.iconst 0, 1) := by decide +kernel
theorem dX7_years_14 : decode cX7_years 14 = .ok (.istore_n 2, 1) := by decide +kernel
theorem dX7_years_15 : decode cX7_years 15 = .ok (.iconst 0, 1) := by decide +kernel
theorem dX7_years_16 : decode cX7_years 16 = .ok (.istore_n 3, 1) := by decide +kernel
theorem dX7_years_17 : decode cX7_years 17 = .ok (.iload_n 3, 1) := by decide +kernel
theorem dX7_years_18 : decode cX7_years 18 = .ok (.iload_n 1, 1) := by decide +kernel
theorem dX7_years_19 : decode cX7_years 19 = .ok (.if_icmp .ge 19, 3) := by decide +kernel
theorem dX7_years_22 : decode cX7_years 22 = .ok (.iload_n 2, 1) := by decide +kernel
theorem dX7_years_23 : decode cX7_years 23 = .ok (.aload_n 0, 1) := by decide +kernel
theorem dX7_years_24 : decode cX7_years 24 = .ok (.getfield 21, 3) := by decide +kernel
theorem dX7_years_27 : decode cX7_years 27 = .ok (.invokevirtual 190, 3) := by decide +kernel
theorem dX7_years_30 : decode cX7_years 30 = .ok (.iadd, 1) := by decide +kernel
theorem dX7_years_31 : decode cX7_years 31 = .ok (.istore_n 2, 1) := by decide +kernel
theorem dX7_years_32 : decode cX7_years 32 = .ok (.iinc 3 1, 3) := by decide +kernel
theorem dX7_years_35 : decode cX7_years 35 = .ok (.goto (-18), 3) := by decide +kernel
theorem dX7_years_38 : decode cX7_years 38 = .ok (.iload_n 2, 1) := by decide +kernel
theorem dX7_years_39 : decode cX7_years 39 = .ok (.ireturn, 1) := by decide +kernel
set_option maxRecDepth 20000 in
theorem ggX7_leaks_X6_firstLeak : GoodIn wsX7_leaks wsX6_firstLeak := goodIn_r _ [7, 8, 9, 10, 11, 12, 13, 14, 15, 16, 17, 18, 19, 20, 21, 22, 23, 24, 25, 26, 27, 28, 29, 30, 31, 32, 33, 34, 35, 36, 37, 38, 39, 40, 41, 42, 43, 44, 45, 46, 47, 48, 49, 50, 51, 52, 53, 54, 55, 56, 57, 58, 59, 60, 61, 62, 63, 64, 65, 66, 67, 68, 69, 70, 71, 72, 73, 74, 75, 76, 77, 78, 79, 80, 81, 82, 83, 84, 85, 86, 87, 88, 89, 90, 91, 92, 93, 94, 95, 96, 97, 98, 99, 100, 101, 102, 103, 104, 105, 106, 107, 108, 109, 110, 111, 112, 113, 114, 115, 116, 117, 118, 119, 120, 121, 122, 123, 124, 125, 126, 127, 128, 129, 130, 131, 132, 133, 134, 145, 146, 147, 148, 149, 150, 151, 152, 153, 154, 155, 156, 157, 158, 159, 160, 161, 162, 163, 164, 165, 166, 167, 168, 169, 170, 171, 172, 173, 174, 175] (by decide +kernel) (by decide +kernel)
set_option maxRecDepth 20000 in
theorem gX7_leaks_X6_firstLeak : GoodIn wsX7_leaks (wsV RX7 194 RX6 yX6_firstLeak wsX6_firstLeak) := goodIn_app (goodIn_of _ (by decide +kernel)) ggX7_leaks_X6_firstLeak
theorem dX7_leaks_0 : decode cX7_leaks 0 = .ok (.aload_n 0, 1) := by decide +kernel
theorem dX7_leaks_1 : decode cX7_leaks 1 = .ok (.getfield 50, 3) := by decide +kernel
theorem dX7_leaks_4 : decode cX7_leaks 4 = .ok (.aload_n 0, 1) := by decide +kernel
theorem dX7_leaks_5 : decode cX7_leaks 5 = .ok (.getfield 21, 3) := by decide +kernel
theorem dX7_leaks_8 : decode cX7_leaks 8 = .ok (.invokevirtual 194, 3) := by decide +kernel
theorem dX7_leaks_11 : decode cX7_leaks 11 = .ok (.ireturn, 1) := by decide +kernel
set_option maxRecDepth 20000 in
theorem ggX7_leakAt_X6_firstLeak : GoodIn wsX7_leakAt wsX6_firstLeak := goodIn_r _ [8, 9, 10, 11, 12, 13, 14, 15, 16, 17, 18, 19, 20, 21, 22, 23, 24, 25, 26, 27, 28, 29, 30, 31, 32, 33, 34, 35, 36, 37, 38, 39, 40, 41, 42, 43, 44, 45, 46, 47, 48, 49, 50, 51, 52, 53, 54, 55, 56, 57, 58, 59, 60, 61, 62, 63, 64, 65, 66, 67, 68, 69, 70, 71, 72, 73, 74, 75, 76, 77, 78, 79, 80, 81, 82, 83, 84, 85, 86, 87, 88, 89, 90, 91, 92, 93, 94, 95, 96, 97, 98, 99, 100, 101, 102, 103, 104, 105, 106, 107, 108, 109, 110, 111, 112, 113, 114, 115, 116, 117, 118, 119, 120, 121, 122, 123, 124, 125, 126, 127, 128, 129, 130, 131, 132, 133, 134, 135, 146, 147, 148, 149, 150, 151, 152, 153, 154, 155, 156, 157, 158, 159, 160, 161, 162, 163, 164, 165, 166, 167, 168, 169, 170, 171, 172, 173, 174, 175, 176] (by decide +kernel) (by decide +kernel)
set_option maxRecDepth 20000 in
theorem gX7_leakAt_X6_firstLeak : GoodIn wsX7_leakAt (wsV RX7 194 RX6 yX6_firstLeak wsX6_firstLeak) := goodIn_app (goodIn_of _ (by decide +kernel)) ggX7_leakAt_X6_firstLeak
theorem dX7_leakAt_0 : decode cX7_leakAt 0 = .ok (.aload_n 0, 1) := by decide +kernel
theorem dX7_leakAt_1 : decode cX7_leakAt 1 = .ok (.getfield 50, 3) := by decide +kernel
theorem dX7_leakAt_4 : decode cX7_leakAt 4 = .ok (.aload_n 0, 1) := by decide +kernel
theorem dX7_leakAt_5 : decode cX7_leakAt 5 = .ok (.getfield 21, 3) := by decide +kernel
theorem dX7_leakAt_8 : decode cX7_leakAt 8 = .ok (.invokevirtual 194, 3) := by decide +kernel
theorem dX7_leakAt_11 : decode cX7_leakAt 11 = .ok (.pop, 1) := by decide +kernel
theorem dX7_leakAt_12 : decode cX7_leakAt 12 = .ok (.aload_n 0, 1) := by decide +kernel
theorem dX7_leakAt_13 : decode cX7_leakAt 13 = .ok (.getfield 50, 3) := by decide +kernel
theorem dX7_leakAt_16 : decode cX7_leakAt 16 = .ok (.getfield 198, 3) := by decide +kernel
theorem dX7_leakAt_19 : decode cX7_leakAt 19 = .ok (.ireturn, 1) := by decide +kernel
set_option maxRecDepth 20000 in
theorem ggX7_weight_X3_hasColumn : GoodIn wsX7_weight wsX3_hasColumn := goodIn_r _ [7, 8, 9, 10, 11, 42, 43, 44, 45, 46, 47, 48] (by decide +kernel) (by decide +kernel)
set_option maxRecDepth 20000 in
theorem gX7_weight_X3_hasColumn : GoodIn wsX7_weight (wsV RX7 124 RX3 yX3_hasColumn wsX3_hasColumn) := goodIn_app (goodIn_of _ (by decide +kernel)) ggX7_weight_X3_hasColumn
set_option maxRecDepth 20000 in
theorem ggX7_weight_X1_weigh : GoodIn wsX7_weight wsX1_weigh := goodIn_r _ [16, 17, 18, 19, 10, 20, 21, 22, 23, 15, 24, 25, 26, 27, 28, 29, 30, 31, 49, 50, 51, 52, 53, 54, 55, 56, 57, 58, 42, 43, 44, 45, 46, 47, 48] (by decide +kernel) (by decide +kernel)
set_option maxRecDepth 20000 in
theorem gX7_weight_X1_weigh : GoodIn wsX7_weight (wsV RX7 201 RX1 yX1_weigh wsX1_weigh) := goodIn_app (goodIn_of _ (by decide +kernel)) ggX7_weight_X1_weigh
theorem dX7_weight_0 : decode cX7_weight 0 = .ok (.aload_n 0, 1) := by decide +kernel
theorem dX7_weight_1 : decode cX7_weight 1 = .ok (.getfield 10, 3) := by decide +kernel
theorem dX7_weight_4 : decode cX7_weight 4 = .ok (.iload_n 1, 1) := by decide +kernel
theorem dX7_weight_5 : decode cX7_weight 5 = .ok (.invokevirtual 124, 3) := by decide +kernel
theorem dX7_weight_8 : decode cX7_weight 8 = .ok (.ifCond .ne 5, 3) := by decide +kernel
theorem dX7_weight_11 : decode cX7_weight 11 = .ok (.iconst (-1), 1) := by decide +kernel
theorem dX7_weight_12 : decode cX7_weight 12 = .ok (.ireturn, 1) := by decide +kernel
theorem dX7_weight_13 : decode cX7_weight 13 = .ok (.aload_n 0, 1) := by decide +kernel
theorem dX7_weight_14 : decode cX7_weight 14 = .ok (.getfield 21, 3) := by decide +kernel
theorem dX7_weight_17 : decode cX7_weight 17 = .ok (.iload_n 1, 1) := by decide +kernel
theorem dX7_weight_18 : decode cX7_weight 18 = .ok (.invokevirtual 201, 3) := by decide +kernel
theorem dX7_weight_21 : decode cX7_weight 21 = .ok (.ireturn, 1) := by decide +kernel
set_option maxRecDepth 20000 in
theorem ggX7_heavy_X3_hasColumn : GoodIn wsX7_heavy wsX3_hasColumn := goodIn_r _ [7, 8, 9, 10, 11, 55, 56, 57, 58, 59, 60, 61] (by decide +kernel) (by decide +kernel)
set_option maxRecDepth 20000 in
theorem gX7_heavy_X3_hasColumn : GoodIn wsX7_heavy (wsV RX7 124 RX3 yX3_hasColumn wsX3_hasColumn) := goodIn_app (goodIn_of _ (by decide +kernel)) ggX7_heavy_X3_hasColumn
set_option maxRecDepth 20000 in
theorem ggX7_heavy_X7_isWithin : GoodIn wsX7_heavy wsX7_isWithin := goodIn_r _ [11] (by decide +kernel) (by decide +kernel)
set_option maxRecDepth 20000 in
theorem gX7_heavy_X7_isWithin : GoodIn wsX7_heavy (va_wsS RX7 70 yX7_isWithin wsX7_isWithin) := goodIn_app (goodIn_of _ (by decide +kernel)) ggX7_heavy_X7_isWithin
set_option maxRecDepth 20000 in
theorem ggX7_heavy_X1_tooMany : GoodIn wsX7_heavy wsX1_tooMany := goodIn_r _ [17, 18, 19, 20, 21, 16, 22, 23, 24, 25, 10, 26, 27, 28, 29, 30, 31, 32, 33, 34, 35, 36, 37, 38, 39, 40, 41, 42, 43, 44, 62, 63, 64, 65, 66, 67, 68, 69, 70, 71, 55, 56, 57, 58, 59, 60, 61] (by decide +kernel) (by decide +kernel)
set_option maxRecDepth 20000 in
theorem gX7_heavy_X1_tooMany : GoodIn wsX7_heavy (wsV RX7 204 RX1 yX1_tooMany wsX1_tooMany) := goodIn_app (goodIn_of _ (by decide +kernel)) ggX7_heavy_X1_tooMany
theorem dX7_heavy_0 : decode cX7_heavy 0 = .ok (.aload_n 0, 1) := by decide +kernel
theorem dX7_heavy_1 : decode cX7_heavy 1 = .ok (.getfield 10, 3) := by decide +kernel
theorem dX7_heavy_4 : decode cX7_heavy 4 = .ok (.iload_n 1, 1) := by decide +kernel
theorem dX7_heavy_5 : decode cX7_heavy 5 = .ok (.invokevirtual 124, 3) := by decide +kernel
theorem dX7_heavy_8 : decode cX7_heavy 8 = .ok (.ifCond .ne 5, 3) := by decide +kernel
theorem dX7_heavy_11 : decode cX7_heavy 11 = .ok (.iconst (-1), 1) := by decide +kernel
theorem dX7_heavy_12 : decode cX7_heavy 12 = .ok (.ireturn, 1) := by decide +kernel
theorem dX7_heavy_13 : decode cX7_heavy 13 = .ok (.iload_n 2, 1) := by decide +kernel
theorem dX7_heavy_14 : decode cX7_heavy 14 = .ok (.iconst 0, 1) := by decide +kernel
theorem dX7_heavy_15 : decode cX7_heavy 15 = .ok (.sipush 999, 3) := by decide +kernel
theorem dX7_heavy_18 : decode cX7_heavy 18 = .ok (.invokestatic 70, 3) := by decide +kernel
theorem dX7_heavy_21 : decode cX7_heavy 21 = .ok (.ifCond .ne 6, 3) := by decide +kernel
theorem dX7_heavy_24 : decode cX7_heavy 24 = .ok (.bipush (-2), 2) := by decide +kernel
theorem dX7_heavy_26 : decode cX7_heavy 26 = .ok (.ireturn, 1) := by decide +kernel
theorem dX7_heavy_27 : decode cX7_heavy 27 = .ok (.aload_n 0, 1) := by decide +kernel
theorem dX7_heavy_28 : decode cX7_heavy 28 = .ok (.getfield 21, 3) := by decide +kernel
theorem dX7_heavy_31 : decode cX7_heavy 31 = .ok (.iload_n 1, 1) := by decide +kernel
theorem dX7_heavy_32 : decode cX7_heavy 32 = .ok (.iload_n 2, 1) := by decide +kernel
theorem dX7_heavy_33 : decode cX7_heavy 33 = .ok (.invokevirtual 204, 3) := by decide +kernel
theorem dX7_heavy_36 : decode cX7_heavy 36 = .ok (.ireturn, 1) := by decide +kernel
set_option maxRecDepth 20000 in
theorem ggX7_fewest_X3_hasColumn : GoodIn wsX7_fewest wsX3_hasColumn := goodIn_r _ [9, 10, 11, 12, 13, 134, 135, 136, 137, 138, 139, 140] (by decide +kernel) (by decide +kernel)
set_option maxRecDepth 20000 in
theorem gX7_fewest_X3_hasColumn : GoodIn wsX7_fewest (wsV RX7 124 RX3 yX3_hasColumn wsX3_hasColumn) := goodIn_app (goodIn_of _ (by decide +kernel)) ggX7_fewest_X3_hasColumn
set_option maxRecDepth 20000 in
theorem ggX7_fewest_X7_isLength : GoodIn wsX7_fewest wsX7_isLength := goodIn_r _ [16, 17, 11, 12, 13] (by decide +kernel) (by decide +kernel)
set_option maxRecDepth 20000 in
theorem gX7_fewest_X7_isLength : GoodIn wsX7_fewest (va_wsS RX7 111 yX7_isLength wsX7_isLength) := goodIn_app (goodIn_of _ (by decide +kernel)) ggX7_fewest_X7_isLength
set_option maxRecDepth 20000 in
theorem ggX7_fewest_X6_leastWay : GoodIn wsX7_fewest wsX6_leastWay := goodIn_r _ [22, 23, 24, 25, 26, 27, 28, 29, 30, 31, 32, 33, 34, 21, 35, 36, 37, 38, 39, 40, 41, 42, 12, 43, 44, 45, 46, 47, 48, 8, 49, 50, 51, 52, 53, 54, 55, 56, 57, 58, 59, 60, 61, 62, 63, 64, 65, 66, 67, 68, 69, 70, 71, 72, 73, 74, 75, 76, 77, 78, 79, 80, 81, 82, 83, 84, 85, 86, 87, 88, 89, 90, 91, 92, 93, 94, 95, 96, 97, 98, 99, 100, 101, 102, 103, 104, 105, 106, 107, 108, 109, 110, 111, 112, 113, 6, 7, 9, 10, 11, 13, 141, 142, 143, 144, 145, 134, 135, 136, 137, 138, 139, 140, 146, 147, 148, 149, 150, 151, 152, 153, 154] (by decide +kernel) (by decide +kernel)
set_option maxRecDepth 20000 in
theorem gX7_fewest_X6_leastWay : GoodIn wsX7_fewest (wsV RX7 207 RX6 yX6_leastWay wsX6_leastWay) := goodIn_app (goodIn_of _ (by decide +kernel)) ggX7_fewest_X6_leastWay
theorem dX7_fewest_0 : decode cX7_fewest 0 = .ok (.aload_n 0, 1) := by decide +kernel
theorem dX7_fewest_1 : decode cX7_fewest 1 = .ok (.getfield 10, 3) := by decide +kernel
theorem dX7_fewest_4 : decode cX7_fewest 4 = .ok (.iload_n 1, 1) := by decide +kernel
theorem dX7_fewest_5 : decode cX7_fewest 5 = .ok (.invokevirtual 124, 3) := by decide +kernel
theorem dX7_fewest_8 : decode cX7_fewest 8 = .ok (.ifCond .ne 5, 3) := by decide +kernel
theorem dX7_fewest_11 : decode cX7_fewest 11 = .ok (.iconst (-1), 1) := by decide +kernel
theorem dX7_fewest_12 : decode cX7_fewest 12 = .ok (.ireturn, 1) := by decide +kernel
theorem dX7_fewest_13 : decode cX7_fewest 13 = .ok (.iload_n 2, 1) := by decide +kernel
theorem dX7_fewest_14 : decode cX7_fewest 14 = .ok (.invokestatic 111, 3) := by decide +kernel
theorem dX7_fewest_17 : decode cX7_fewest 17 = .ok (.ifCond .ne 6, 3) := by decide +kernel
theorem dX7_fewest_20 : decode cX7_fewest 20 = .ok (.bipush (-2), 2) := by decide +kernel
theorem dX7_fewest_22 : decode cX7_fewest 22 = .ok (.ireturn, 1) := by decide +kernel
theorem dX7_fewest_23 : decode cX7_fewest 23 = .ok (.aload_n 0, 1) := by decide +kernel
theorem dX7_fewest_24 : decode cX7_fewest 24 = .ok (.getfield 50, 3) := by decide +kernel
theorem dX7_fewest_27 : decode cX7_fewest 27 = .ok (.aload_n 0, 1) := by decide +kernel
theorem dX7_fewest_28 : decode cX7_fewest 28 = .ok (.getfield 21, 3) := by decide +kernel
theorem dX7_fewest_31 : decode cX7_fewest 31 = .ok (.getfield 100, 3) := by decide +kernel
theorem dX7_fewest_34 : decode cX7_fewest 34 = .ok (.iload_n 1, 1) := by decide +kernel
theorem dX7_fewest_35 : decode cX7_fewest 35 = .ok (.iload_n 2, 1) := by decide +kernel
theorem dX7_fewest_36 : decode cX7_fewest 36 = .ok (.invokevirtual 207, 3) := by decide +kernel
theorem dX7_fewest_39 : decode cX7_fewest 39 = .ok (.ireturn, 1) := by decide +kernel
set_option maxRecDepth 20000 in
theorem ggX7_proof_X3_hasColumn : GoodIn wsX7_proof wsX3_hasColumn := goodIn_r _ [10, 11, 12, 13, 14, 120, 121, 122, 123, 124, 125, 126] (by decide +kernel) (by decide +kernel)
set_option maxRecDepth 20000 in
theorem gX7_proof_X3_hasColumn : GoodIn wsX7_proof (wsV RX7 124 RX3 yX3_hasColumn wsX3_hasColumn) := goodIn_app (goodIn_of _ (by decide +kernel)) ggX7_proof_X3_hasColumn
set_option maxRecDepth 20000 in
theorem ggX7_proof_X7_isLength : GoodIn wsX7_proof wsX7_isLength := goodIn_r _ [17, 18, 12, 13, 14] (by decide +kernel) (by decide +kernel)
set_option maxRecDepth 20000 in
theorem gX7_proof_X7_isLength : GoodIn wsX7_proof (va_wsS RX7 111 yX7_isLength wsX7_isLength) := goodIn_app (goodIn_of _ (by decide +kernel)) ggX7_proof_X7_isLength
set_option maxRecDepth 20000 in
theorem ggX7_proof_X7_isWithin : GoodIn wsX7_proof wsX7_isWithin := goodIn_r _ [14] (by decide +kernel) (by decide +kernel)
set_option maxRecDepth 20000 in
theorem gX7_proof_X7_isWithin : GoodIn wsX7_proof (va_wsS RX7 70 yX7_isWithin wsX7_isWithin) := goodIn_app (goodIn_of _ (by decide +kernel)) ggX7_proof_X7_isWithin
set_option maxRecDepth 20000 in
theorem ggX7_proof_X6_isProof : GoodIn wsX7_proof wsX6_isProof := goodIn_r _ [23, 24, 25, 26, 27, 28, 29, 30, 31, 32, 13, 33, 34, 35, 36, 37, 38, 9, 39, 40, 41, 42, 43, 44, 45, 46, 47, 48, 49, 50, 51, 52, 53, 54, 55, 56, 57, 58, 59, 60, 61, 62, 63, 64, 65, 66, 67, 68, 69, 70, 71, 72, 73, 74, 75, 76, 77, 78, 79, 80, 81, 82, 83, 84, 85, 86, 87, 88, 89, 90, 91, 92, 93, 94, 95, 96, 97, 98, 99, 100, 101, 102, 103, 104, 105, 106, 107, 108, 109, 7, 8, 10, 11, 12, 14, 137, 138, 139, 140, 141, 120, 121, 122, 123, 124, 125, 126, 142, 143, 144, 145, 146, 147, 148, 149, 150] (by decide +kernel) (by decide +kernel)
set_option maxRecDepth 20000 in
theorem gX7_proof_X6_isProof : GoodIn wsX7_proof (wsV RX7 213 RX6 yX6_isProof wsX6_isProof) := goodIn_app (goodIn_of _ (by decide +kernel)) ggX7_proof_X6_isProof
theorem dX7_proof_0 : decode cX7_proof 0 = .ok (.aload_n 0, 1) := by decide +kernel
theorem dX7_proof_1 : decode cX7_proof 1 = .ok (.getfield 10, 3) := by decide +kernel
theorem dX7_proof_4 : decode cX7_proof 4 = .ok (.iload_n 1, 1) := by decide +kernel
theorem dX7_proof_5 : decode cX7_proof 5 = .ok (.invokevirtual 124, 3) := by decide +kernel
theorem dX7_proof_8 : decode cX7_proof 8 = .ok (.ifCond .ne 5, 3) := by decide +kernel
theorem dX7_proof_11 : decode cX7_proof 11 = .ok (.iconst (-1), 1) := by decide +kernel
theorem dX7_proof_12 : decode cX7_proof 12 = .ok (.ireturn, 1) := by decide +kernel
theorem dX7_proof_13 : decode cX7_proof 13 = .ok (.iload_n 2, 1) := by decide +kernel
theorem dX7_proof_14 : decode cX7_proof 14 = .ok (.invokestatic 111, 3) := by decide +kernel
theorem dX7_proof_17 : decode cX7_proof 17 = .ok (.ifCond .eq 22, 3) := by decide +kernel
theorem dX7_proof_20 : decode cX7_proof 20 = .ok (.iload_n 3, 1) := by decide +kernel
theorem dX7_proof_21 : decode cX7_proof 21 = .ok (.iconst 0, 1) := by decide +kernel
theorem dX7_proof_22 : decode cX7_proof 22 = .ok (.iconst 1, 1) := by decide +kernel
theorem dX7_proof_23 : decode cX7_proof 23 = .ok (.aload_n 0, 1) := by decide +kernel
theorem dX7_proof_24 : decode cX7_proof 24 = .ok (.getfield 10, 3) := by decide +kernel
theorem dX7_proof_27 : decode cX7_proof 27 = .ok (.getfield 211, 3) := by decide +kernel
theorem dX7_proof_30 : decode cX7_proof 30 = .ok (.ishl, 1) := by decide +kernel
theorem dX7_proof_31 : decode cX7_proof 31 = .ok (.iconst 1, 1) := by decide +kernel
theorem dX7_proof_32 : decode cX7_proof 32 = .ok (.isub, 1) := by decide +kernel
theorem dX7_proof_33 : decode cX7_proof 33 = .ok (.invokestatic 70, 3) := by decide +kernel
theorem dX7_proof_36 : decode cX7_proof 36 = .ok (.ifCond .ne 6, 3) := by decide +kernel
theorem dX7_proof_39 : decode cX7_proof 39 = .ok (.bipush (-2), 2) := by decide +kernel
theorem dX7_proof_41 : decode cX7_proof 41 = .ok (.ireturn, 1) := by decide +kernel
theorem dX7_proof_42 : decode cX7_proof 42 = .ok (.aload_n 0, 1) := by decide +kernel
theorem dX7_proof_43 : decode cX7_proof 43 = .ok (.getfield 50, 3) := by decide +kernel
theorem dX7_proof_46 : decode cX7_proof 46 = .ok (.aload_n 0, 1) := by decide +kernel
theorem dX7_proof_47 : decode cX7_proof 47 = .ok (.getfield 21, 3) := by decide +kernel
theorem dX7_proof_50 : decode cX7_proof 50 = .ok (.getfield 100, 3) := by decide +kernel
theorem dX7_proof_53 : decode cX7_proof 53 = .ok (.iload_n 1, 1) := by decide +kernel
theorem dX7_proof_54 : decode cX7_proof 54 = .ok (.iload_n 2, 1) := by decide +kernel
theorem dX7_proof_55 : decode cX7_proof 55 = .ok (.iload_n 3, 1) := by decide +kernel
theorem dX7_proof_56 : decode cX7_proof 56 = .ok (.invokevirtual 213, 3) := by decide +kernel
theorem dX7_proof_59 : decode cX7_proof 59 = .ok (.ifCond .eq 7, 3) := by decide +kernel
theorem dX7_proof_62 : decode cX7_proof 62 = .ok (.iconst 1, 1) := by decide +kernel
theorem dX7_proof_63 : decode cX7_proof 63 = .ok (.goto 4, 3) := by decide +kernel
theorem dX7_proof_66 : decode cX7_proof 66 = .ok (.iconst 0, 1) := by decide +kernel
theorem dX7_proof_67 : decode cX7_proof 67 = .ok (.ireturn, 1) := by decide +kernel
set_option maxRecDepth 20000 in
theorem ggX7_grew_X7_isSort : GoodIn wsX7_grew wsX7_isSort := goodIn_r _ [7, 8, 9, 6, 10] (by decide +kernel) (by decide +kernel)
set_option maxRecDepth 20000 in
theorem gX7_grew_X7_isSort : GoodIn wsX7_grew (va_wsS RX7 107 yX7_isSort wsX7_isSort) := goodIn_app (goodIn_of _ (by decide +kernel)) ggX7_grew_X7_isSort
set_option maxRecDepth 20000 in
theorem ggX7_grew_X7_isWithin : GoodIn wsX7_grew wsX7_isWithin := goodIn_r _ [10] (by decide +kernel) (by decide +kernel)
set_option maxRecDepth 20000 in
theorem gX7_grew_X7_isWithin : GoodIn wsX7_grew (va_wsS RX7 70 yX7_isWithin wsX7_isWithin) := goodIn_app (goodIn_of _ (by decide +kernel)) ggX7_grew_X7_isWithin
theorem dX7_grew_0 : decode cX7_grew 0 = .ok (.iload_n 1, 1) := by decide +kernel
theorem dX7_grew_1 : decode cX7_grew 1 = .ok (.invokestatic 107, 3) := by decide +kernel
theorem dX7_grew_4 : decode cX7_grew 4 = .ok (.ifCond .ne 5, 3) := by decide +kernel
theorem dX7_grew_7 : decode cX7_grew 7 = .ok (.iconst (-1), 1) := by decide +kernel
theorem dX7_grew_8 : decode cX7_grew 8 = .ok (.ireturn, 1) := by decide +kernel
theorem dX7_grew_9 : decode cX7_grew 9 = .ok (.iload_n 2, 1) := by decide +kernel
theorem dX7_grew_10 : decode cX7_grew 10 = .ok (.iconst 0, 1) := by decide +kernel
theorem dX7_grew_11 : decode cX7_grew 11 = .ok (.bipush 99, 2) := by decide +kernel
theorem dX7_grew_13 : decode cX7_grew 13 = .ok (.invokestatic 70, 3) := by decide +kernel
theorem dX7_grew_16 : decode cX7_grew 16 = .ok (.ifCond .eq 13, 3) := by decide +kernel
theorem dX7_grew_19 : decode cX7_grew 19 = .ok (.iload_n 3, 1) := by decide +kernel
theorem dX7_grew_20 : decode cX7_grew 20 = .ok (.iload_n 2, 1) := by decide +kernel
theorem dX7_grew_21 : decode cX7_grew 21 = .ok (.bipush 99, 2) := by decide +kernel
theorem dX7_grew_23 : decode cX7_grew 23 = .ok (.invokestatic 70, 3) := by decide +kernel
theorem dX7_grew_26 : decode cX7_grew 26 = .ok (.ifCond .ne 6, 3) := by decide +kernel
theorem dX7_grew_29 : decode cX7_grew 29 = .ok (.bipush (-2), 2) := by decide +kernel
theorem dX7_grew_31 : decode cX7_grew 31 = .ok (.ireturn, 1) := by decide +kernel
theorem dX7_grew_32 : decode cX7_grew 32 = .ok (.bipush 100, 2) := by decide +kernel
theorem dX7_grew_34 : decode cX7_grew 34 = .ok (.aload_n 0, 1) := by decide +kernel
theorem dX7_grew_35 : decode cX7_grew 35 = .ok (.getfield 59, 3) := by decide +kernel
theorem dX7_grew_38 : decode cX7_grew 38 = .ok (.getfield 217, 3) := by decide +kernel
theorem dX7_grew_41 : decode cX7_grew 41 = .ok (.iload_n 1, 1) := by decide +kernel
theorem dX7_grew_42 : decode cX7_grew 42 = .ok (.iaload, 1) := by decide +kernel
theorem dX7_grew_43 : decode cX7_grew 43 = .ok (.imul, 1) := by decide +kernel
theorem dX7_grew_44 : decode cX7_grew 44 = .ok (.aload_n 0, 1) := by decide +kernel
theorem dX7_grew_45 : decode cX7_grew 45 = .ok (.getfield 59, 3) := by decide +kernel
theorem dX7_grew_48 : decode cX7_grew 48 = .ok (.getfield 220, 3) := by decide +kernel
theorem dX7_grew_51 : decode cX7_grew 51 = .ok (.iload_n 1, 1) := by decide +kernel
theorem dX7_grew_52 : decode cX7_grew 52 = .ok (.iaload, 1) := by decide +kernel
theorem dX7_grew_53 : decode cX7_grew 53 = .ok (.iadd, 1) := by decide +kernel
theorem dX7_grew_54 : decode cX7_grew 54 = .ok (.istore 4, 2) := by decide +kernel
theorem dX7_grew_56 : decode cX7_grew 56 = .ok (.aload_n 0, 1) := by decide +kernel
theorem dX7_grew_57 : decode cX7_grew 57 = .ok (.getfield 59, 3) := by decide +kernel
theorem dX7_grew_60 : decode cX7_grew 60 = .ok (.getfield 217, 3) := by decide +kernel
theorem dX7_grew_63 : decode cX7_grew 63 = .ok (.iload_n 1, 1) := by decide +kernel
theorem dX7_grew_64 : decode cX7_grew 64 = .ok (.iload_n 2, 1) := by decide +kernel
theorem dX7_grew_65 : decode cX7_grew 65 = .ok (.iastore, 1) := by decide +kernel
theorem dX7_grew_66 : decode cX7_grew 66 = .ok (.aload_n 0, 1) := by decide +kernel
theorem dX7_grew_67 : decode cX7_grew 67 = .ok (.getfield 59, 3) := by decide +kernel
theorem dX7_grew_70 : decode cX7_grew 70 = .ok (.getfield 220, 3) := by decide +kernel
theorem dX7_grew_73 : decode cX7_grew 73 = .ok (.iload_n 1, 1) := by decide +kernel
theorem dX7_grew_74 : decode cX7_grew 74 = .ok (.iload_n 3, 1) := by decide +kernel
theorem dX7_grew_75 : decode cX7_grew 75 = .ok (.iastore, 1) := by decide +kernel
theorem dX7_grew_76 : decode cX7_grew 76 = .ok (.iload 4, 2) := by decide +kernel
theorem dX7_grew_78 : decode cX7_grew 78 = .ok (.ireturn, 1) := by decide +kernel
set_option maxRecDepth 20000 in
theorem ggX7_over_X1_wasLaid : GoodIn wsX7_over wsX1_wasLaid := goodIn_r _ [6, 7, 8, 9, 10, 31, 32, 33, 34, 35, 36, 37, 38, 39, 40] (by decide +kernel) (by decide +kernel)
set_option maxRecDepth 20000 in
theorem gX7_over_X1_wasLaid : GoodIn wsX7_over (wsV RX7 130 RX1 yX1_wasLaid wsX1_wasLaid) := goodIn_app (goodIn_of _ (by decide +kernel)) ggX7_over_X1_wasLaid
set_option maxRecDepth 20000 in
theorem ggX7_over_X1_liesOver : GoodIn wsX7_over wsX1_liesOver := goodIn_r _ [14, 15, 16, 17, 18, 19, 9, 20, 31, 32, 33, 34, 35, 36, 37, 38, 39, 40, 41, 42, 43, 44, 45, 46, 47] (by decide +kernel) (by decide +kernel)
set_option maxRecDepth 20000 in
theorem gX7_over_X1_liesOver : GoodIn wsX7_over (wsV RX7 223 RX1 yX1_liesOver wsX1_liesOver) := goodIn_app (goodIn_of _ (by decide +kernel)) ggX7_over_X1_liesOver
theorem dX7_over_0 : decode cX7_over 0 = .ok (.aload_n 0, 1) := by decide +kernel
theorem dX7_over_1 : decode cX7_over 1 = .ok (.getfield 21, 3) := by decide +kernel
theorem dX7_over_4 : decode cX7_over 4 = .ok (.iload_n 1, 1) := by decide +kernel
theorem dX7_over_5 : decode cX7_over 5 = .ok (.invokevirtual 130, 3) := by decide +kernel
theorem dX7_over_8 : decode cX7_over 8 = .ok (.ifCond .eq 14, 3) := by decide +kernel
theorem dX7_over_11 : decode cX7_over 11 = .ok (.aload_n 0, 1) := by decide +kernel
theorem dX7_over_12 : decode cX7_over 12 = .ok (.getfield 21, 3) := by decide +kernel
theorem dX7_over_15 : decode cX7_over 15 = .ok (.iload_n 2, 1) := by decide +kernel
theorem dX7_over_16 : decode cX7_over 16 = .ok (.invokevirtual 130, 3) := by decide +kernel
theorem dX7_over_19 : decode cX7_over 19 = .ok (.ifCond .ne 5, 3) := by decide +kernel
theorem dX7_over_22 : decode cX7_over 22 = .ok (.iconst (-1), 1) := by decide +kernel
theorem dX7_over_23 : decode cX7_over 23 = .ok (.ireturn, 1) := by decide +kernel
theorem dX7_over_24 : decode cX7_over 24 = .ok (.aload_n 0, 1) := by decide +kernel
theorem dX7_over_25 : decode cX7_over 25 = .ok (.getfield 21, 3) := by decide +kernel
theorem dX7_over_28 : decode cX7_over 28 = .ok (.iload_n 1, 1) := by decide +kernel
theorem dX7_over_29 : decode cX7_over 29 = .ok (.iload_n 2, 1) := by decide +kernel
theorem dX7_over_30 : decode cX7_over 30 = .ok (.invokevirtual 223, 3) := by decide +kernel
theorem dX7_over_33 : decode cX7_over 33 = .ok (.ifCond .eq 7, 3) := by decide +kernel
theorem dX7_over_36 : decode cX7_over 36 = .ok (.iconst 1, 1) := by decide +kernel
theorem dX7_over_37 : decode cX7_over 37 = .ok (.goto 4, 3) := by decide +kernel
theorem dX7_over_40 : decode cX7_over 40 = .ok (.iconst 0, 1) := by decide +kernel
theorem dX7_over_41 : decode cX7_over 41 = .ok (.ireturn, 1) := by decide +kernel
set_option maxRecDepth 20000 in
theorem ggX7_when_X1_wasLaid : GoodIn wsX7_when wsX1_wasLaid := goodIn_r _ [8, 9, 10, 11, 12, 75, 76, 77, 78, 79, 80, 81, 82, 83, 84] (by decide +kernel) (by decide +kernel)
set_option maxRecDepth 20000 in
theorem gX7_when_X1_wasLaid : GoodIn wsX7_when (wsV RX7 130 RX1 yX1_wasLaid wsX1_wasLaid) := goodIn_app (goodIn_of _ (by decide +kernel)) ggX7_when_X1_wasLaid
set_option maxRecDepth 20000 in
theorem ggX7_when_X1_remainsOf : GoodIn wsX7_when wsX1_remainsOf := goodIn_r _ [16, 17, 75, 76, 77, 78, 79, 80, 81, 82, 83, 84] (by decide +kernel) (by decide +kernel)
set_option maxRecDepth 20000 in
theorem gX7_when_X1_remainsOf : GoodIn wsX7_when (wsV RX7 148 RX1 yX1_remainsOf wsX1_remainsOf) := goodIn_app (goodIn_of _ (by decide +kernel)) ggX7_when_X1_remainsOf
set_option maxRecDepth 20000 in
theorem ggX7_when_X0_firstWrong : GoodIn wsX7_when wsX0_firstWrong := goodIn_r _ [22, 23, 24, 25, 26, 27, 28, 29, 30, 31, 32, 21, 33, 34, 35, 36, 37, 38, 7, 39, 40, 41, 42, 43, 44, 11, 45, 46, 47, 48, 49, 50, 68, 69, 70, 71, 72, 73, 74, 75, 76, 77, 78, 79, 80, 81, 82, 83, 84, 85, 86, 87, 88, 89, 90, 91] (by decide +kernel) (by decide +kernel)
set_option maxRecDepth 20000 in
theorem gX7_when_X0_firstWrong : GoodIn wsX7_when (wsV RX7 226 RX0 yX0_firstWrong wsX0_firstWrong) := goodIn_app (goodIn_of _ (by decide +kernel)) ggX7_when_X0_firstWrong
set_option maxRecDepth 20000 in
theorem ggX7_when_X0_latest : GoodIn wsX7_when wsX0_latest := goodIn_r _ [54, 23, 24, 25, 55, 56, 28, 57, 46, 47, 48, 21, 49, 50, 35, 36, 37, 38, 7, 39, 40, 41, 42, 43, 44, 11, 45, 68, 69, 70, 71, 72, 73, 74, 75, 76, 77, 78, 79, 80, 81, 82, 83, 84, 85, 86, 87, 88, 89, 90, 91] (by decide +kernel) (by decide +kernel)
set_option maxRecDepth 20000 in
theorem gX7_when_X0_latest : GoodIn wsX7_when (wsV RX7 229 RX0 yX0_latest wsX0_latest) := goodIn_app (goodIn_of _ (by decide +kernel)) ggX7_when_X0_latest
theorem dX7_when_0 : decode cX7_when 0 = .ok (.aload_n 0, 1) := by decide +kernel
theorem dX7_when_1 : decode cX7_when 1 = .ok (.getfield 21, 3) := by decide +kernel
theorem dX7_when_4 : decode cX7_when 4 = .ok (.iload_n 1, 1) := by decide +kernel
theorem dX7_when_5 : decode cX7_when 5 = .ok (.invokevirtual 130, 3) := by decide +kernel
theorem dX7_when_8 : decode cX7_when 8 = .ok (.ifCond .ne 5, 3) := by decide +kernel
theorem dX7_when_11 : decode cX7_when 11 = .ok (.iconst (-1), 1) := by decide +kernel
theorem dX7_when_12 : decode cX7_when 12 = .ok (.ireturn, 1) := by decide +kernel
theorem dX7_when_13 : decode cX7_when 13 = .ok (.aload_n 0, 1) := by decide +kernel
theorem dX7_when_14 : decode cX7_when 14 = .ok (.getfield 21, 3) := by decide +kernel
theorem dX7_when_17 : decode cX7_when 17 = .ok (.iload_n 1, 1) := by decide +kernel
theorem dX7_when_18 : decode cX7_when 18 = .ok (.invokevirtual 148, 3) := by decide +kernel
theorem dX7_when_21 : decode cX7_when 21 = .ok (.ifCond .ne 6, 3) := by decide +kernel
theorem dX7_when_24 : decode cX7_when 24 = .ok (.bipush (-3), 2) := by decide +kernel
theorem dX7_when_26 : decode cX7_when 26 = .ok (.ireturn, 1) := by decide +kernel
theorem dX7_when_27 : decode cX7_when 27 = .ok (.aload_n 0, 1) := by decide +kernel
theorem dX7_when_28 : decode cX7_when 28 = .ok (.getfield 59, 3) := by decide +kernel
theorem dX7_when_31 : decode cX7_when 31 = .ok (.invokevirtual 226, 3) := by decide +kernel
theorem dX7_when_34 : decode cX7_when 34 = .ok (.bipush (-9), 2) := by decide +kernel
theorem dX7_when_36 : decode cX7_when 36 = .ok (.if_icmp .eq 6, 3) := by decide +kernel
theorem dX7_when_39 : decode cX7_when 39 = .ok (.bipush (-9), 2) := by decide +kernel
theorem dX7_when_41 : decode cX7_when 41 = .ok (.ireturn, 1) := by decide +kernel
theorem dX7_when_42 : decode cX7_when 42 = .ok (.iload_n 2, 1) := by decide +kernel
theorem dX7_when_43 : decode cX7_when 43 = .ok (.ifCond .eq 14, 3) := by decide +kernel
theorem dX7_when_46 : decode cX7_when 46 = .ok (.aload_n 0, 1) := by decide +kernel
theorem dX7_when_47 : decode cX7_when 47 = .ok (.getfield 59, 3) := by decide +kernel
theorem dX7_when_50 : decode cX7_when 50 = .ok (.iload_n 1, 1) := by decide +kernel
theorem dX7_when_51 : decode cX7_when 51 = .ok (.invokevirtual 229, 3) := by decide +kernel
theorem dX7_when_54 : decode cX7_when 54 = .ok (.goto 12, 3) := by decide +kernel
theorem dX7_when_57 : decode cX7_when 57 = .ok (.aload_n 0, 1) := by decide +kernel
theorem dX7_when_58 : decode cX7_when 58 = .ok (.getfield 59, 3) := by decide +kernel
theorem dX7_when_61 : decode cX7_when 61 = .ok (.getfield 232, 3) := by decide +kernel
theorem dX7_when_64 : decode cX7_when 64 = .ok (.iload_n 1, 1) := by decide +kernel
theorem dX7_when_65 : decode cX7_when 65 = .ok (.iaload, 1) := by decide +kernel
theorem dX7_when_66 : decode cX7_when 66 = .ok (.ireturn, 1) := by decide +kernel
set_option maxRecDepth 20000 in
theorem ggX7_wrong_X0_firstWrong : GoodIn wsX7_wrong wsX0_firstWrong := goodIn_r _ [6, 7, 8, 9, 10, 11, 12, 13, 14, 15, 16, 5, 17, 18, 19, 20, 21, 22, 23, 24, 25, 26, 27, 28, 29, 30, 31, 32, 33, 34, 35, 36, 47, 48, 49, 50, 51, 52, 53, 54, 55, 56, 57, 58, 59, 60, 61, 62, 63, 64, 65, 66, 67, 68, 69, 70] (by decide +kernel) (by decide +kernel)
set_option maxRecDepth 20000 in
theorem gX7_wrong_X0_firstWrong : GoodIn wsX7_wrong (wsV RX7 226 RX0 yX0_firstWrong wsX0_firstWrong) := goodIn_app (goodIn_of _ (by decide +kernel)) ggX7_wrong_X0_firstWrong
theorem dX7_wrong_0 : decode cX7_wrong 0 = .ok (.aload_n 0, 1) := by decide +kernel
theorem dX7_wrong_1 : decode cX7_wrong 1 = .ok (.getfield 59, 3) := by decide +kernel
theorem dX7_wrong_4 : decode cX7_wrong 4 = .ok (.invokevirtual 226, 3) := by decide +kernel
theorem dX7_wrong_7 : decode cX7_wrong 7 = .ok (.ireturn, 1) := by decide +kernel
set_option maxRecDepth 20000 in
theorem ggX7_ways_X3_hasColumn : GoodIn wsX7_ways wsX3_hasColumn := goodIn_r _ [8, 9, 10, 11, 12, 85, 86, 87, 88, 89, 90, 91] (by decide +kernel) (by decide +kernel)
set_option maxRecDepth 20000 in
theorem gX7_ways_X3_hasColumn : GoodIn wsX7_ways (wsV RX7 124 RX3 yX3_hasColumn wsX3_hasColumn) := goodIn_app (goodIn_of _ (by decide +kernel)) ggX7_ways_X3_hasColumn
set_option maxRecDepth 20000 in
theorem ggX7_ways_X0_countWays : GoodIn wsX7_ways wsX0_countWays := goodIn_r _ [17, 18, 19, 20, 21, 22, 23, 24, 25, 26, 27, 28, 29, 30, 31, 11, 32, 33, 34, 35, 36, 37, 38, 39, 40, 41, 42, 43, 44, 16, 45, 46, 47, 48, 49, 50, 51, 52, 53, 54, 55, 56, 57, 58, 59, 60, 61, 62, 63, 64, 65, 66, 67, 68, 69, 70, 10, 12, 71, 72, 73, 74, 92, 93, 94, 95, 96, 97, 98, 99, 100, 101, 102, 103, 104, 105, 106, 107, 108, 85, 86, 87, 88, 89, 90, 91] (by decide +kernel) (by decide +kernel)
set_option maxRecDepth 20000 in
theorem gX7_ways_X0_countWays : GoodIn wsX7_ways (wsV RX7 237 RX0 yX0_countWays wsX0_countWays) := goodIn_app (goodIn_of _ (by decide +kernel)) ggX7_ways_X0_countWays
theorem dX7_ways_0 : decode cX7_ways 0 = .ok (.aload_n 0, 1) := by decide +kernel
theorem dX7_ways_1 : decode cX7_ways 1 = .ok (.getfield 10, 3) := by decide +kernel
theorem dX7_ways_4 : decode cX7_ways 4 = .ok (.iload_n 1, 1) := by decide +kernel
theorem dX7_ways_5 : decode cX7_ways 5 = .ok (.invokevirtual 124, 3) := by decide +kernel
theorem dX7_ways_8 : decode cX7_ways 8 = .ok (.ifCond .ne 7, 3) := by decide +kernel
theorem dX7_ways_11 : decode cX7_ways 11 = .ok (.ldc2_w 235, 3) := by decide +kernel
theorem dX7_ways_14 : decode cX7_ways 14 = .ok (.lreturn, 1) := by decide +kernel
theorem dX7_ways_15 : decode cX7_ways 15 = .ok (.aload_n 0, 1) := by decide +kernel
theorem dX7_ways_16 : decode cX7_ways 16 = .ok (.getfield 59, 3) := by decide +kernel
theorem dX7_ways_19 : decode cX7_ways 19 = .ok (.iload_n 1, 1) := by decide +kernel
theorem dX7_ways_20 : decode cX7_ways 20 = .ok (.invokevirtual 237, 3) := by decide +kernel
theorem dX7_ways_23 : decode cX7_ways 23 = .ok (.lreturn, 1) := by decide +kernel
set_option maxRecDepth 20000 in
theorem ggX7_burnt_X3_hasCell : GoodIn wsX7_burnt wsX3_hasCell := goodIn_r _ [7, 8, 9, 10, 6, 11, 12, 13, 14, 15, 16, 17, 18, 19, 20, 59, 60, 61, 62, 63, 64, 65] (by decide +kernel) (by decide +kernel)
set_option maxRecDepth 20000 in
theorem gX7_burnt_X3_hasCell : GoodIn wsX7_burnt (wsV RX7 88 RX3 yX3_hasCell wsX3_hasCell) := goodIn_app (goodIn_of _ (by decide +kernel)) ggX7_burnt_X3_hasCell
set_option maxRecDepth 20000 in
theorem ggX7_burnt_X7_isWind : GoodIn wsX7_burnt wsX7_isWind := goodIn_r _ [23, 24, 13, 14, 15] (by decide +kernel) (by decide +kernel)
set_option maxRecDepth 20000 in
theorem gX7_burnt_X7_isWind : GoodIn wsX7_burnt (va_wsS RX7 241 yX7_isWind wsX7_isWind) := goodIn_app (goodIn_of _ (by decide +kernel)) ggX7_burnt_X7_isWind
set_option maxRecDepth 20000 in
theorem ggX7_burnt_X1_strawCells : GoodIn wsX7_burnt wsX1_strawCells := goodIn_r _ [29, 30, 31, 32, 33, 66, 67, 68, 69, 70, 71, 72, 73, 74, 75, 59, 60, 61, 62, 63, 64, 65] (by decide +kernel) (by decide +kernel)
set_option maxRecDepth 20000 in
theorem gX7_burnt_X1_strawCells : GoodIn wsX7_burnt (wsV RX7 244 RX1 yX1_strawCells wsX1_strawCells) := goodIn_app (goodIn_of _ (by decide +kernel)) ggX7_burnt_X1_strawCells
set_option maxRecDepth 20000 in
theorem ggX7_burnt_X7_cellOf : GoodIn wsX7_burnt wsX7_cellOf := goodIn_r _ [36] (by decide +kernel) (by decide +kernel)
set_option maxRecDepth 20000 in
theorem gX7_burnt_X7_cellOf : GoodIn wsX7_burnt (va_wsS RX7 92 yX7_cellOf wsX7_cellOf) := goodIn_app (goodIn_of _ (by decide +kernel)) ggX7_burnt_X7_cellOf
set_option maxRecDepth 20000 in
theorem ggX7_burnt_X2_spread : GoodIn wsX7_burnt wsX2_spread := goodIn_r _ [40, 41] (by decide +kernel) (by decide +kernel)
set_option maxRecDepth 20000 in
theorem gX7_burnt_X2_spread : GoodIn wsX7_burnt (va_wsS RX7 248 yX2_spread wsX2_spread) := goodIn_app (goodIn_of _ (by decide +kernel)) ggX7_burnt_X2_spread
set_option maxRecDepth 20000 in
theorem ggX7_burnt_J13_bitCount_95d88 : GoodIn wsX7_burnt wsJ13_bitCount_95d88 := goodIn_r _ [45, 46, 47, 48] (by decide +kernel) (by decide +kernel)
set_option maxRecDepth 20000 in
theorem gX7_burnt_J13_bitCount_95d88 : GoodIn wsX7_burnt (va_wsS RX7 162 yJ13_bitCount_95d88 wsJ13_bitCount_95d88) := goodIn_app (goodIn_of _ (by decide +kernel)) ggX7_burnt_J13_bitCount_95d88
theorem dX7_burnt_0 : decode cX7_burnt 0 = .ok (.aload_n 0, 1) := by decide +kernel
theorem dX7_burnt_1 : decode cX7_burnt 1 = .ok (.getfield 10, 3) := by decide +kernel
theorem dX7_burnt_4 : decode cX7_burnt 4 = .ok (.iload_n 1, 1) := by decide +kernel
theorem dX7_burnt_5 : decode cX7_burnt 5 = .ok (.iload_n 2, 1) := by decide +kernel
theorem dX7_burnt_6 : decode cX7_burnt 6 = .ok (.invokevirtual 88, 3) := by decide +kernel
theorem dX7_burnt_9 : decode cX7_burnt 9 = .ok (.ifCond .ne 5, 3) := by decide +kernel
theorem dX7_burnt_12 : decode cX7_burnt 12 = .ok (.iconst (-1), 1) := by decide +kernel
theorem dX7_burnt_13 : decode cX7_burnt 13 = .ok (.ireturn, 1) := by decide +kernel
theorem dX7_burnt_14 : decode cX7_burnt 14 = .ok (.iload_n 3, 1) := by decide +kernel
theorem dX7_burnt_15 : decode cX7_burnt 15 = .ok (.invokestatic 241, 3) := by decide +kernel
theorem dX7_burnt_18 : decode cX7_burnt 18 = .ok (.ifCond .ne 6, 3) := by decide +kernel
theorem dX7_burnt_21 : decode cX7_burnt 21 = .ok (.bipush (-2), 2) := by decide +kernel
theorem dX7_burnt_23 : decode cX7_burnt 23 = .ok (.ireturn, 1) := by decide +kernel
theorem dX7_burnt_24 : decode cX7_burnt 24 = .ok (.aload_n 0, 1) := by decide +kernel
theorem dX7_burnt_25 : decode cX7_burnt 25 = .ok (.getfield 21, 3) := by decide +kernel
theorem dX7_burnt_28 : decode cX7_burnt 28 = .ok (.invokevirtual 244, 3) := by decide +kernel
theorem dX7_burnt_31 : decode cX7_burnt 31 = .ok (.iload_n 1, 1) := by decide +kernel
theorem dX7_burnt_32 : decode cX7_burnt 32 = .ok (.iload_n 2, 1) := by decide +kernel
theorem dX7_burnt_33 : decode cX7_burnt 33 = .ok (.invokestatic 92, 3) := by decide +kernel
theorem dX7_burnt_36 : decode cX7_burnt 36 = .ok (.iload_n 3, 1) := by decide +kernel
theorem dX7_burnt_37 : decode cX7_burnt 37 = .ok (.invokestatic 248, 3) := by decide +kernel
theorem dX7_burnt_40 : decode cX7_burnt 40 = .ok (.invokestatic 162, 3) := by decide +kernel
theorem dX7_burnt_43 : decode cX7_burnt 43 = .ok (.ireturn, 1) := by decide +kernel
set_option maxRecDepth 20000 in
theorem ggX7_worst_X7_isWind : GoodIn wsX7_worst wsX7_isWind := goodIn_r _ [5, 6, 7, 4, 8] (by decide +kernel) (by decide +kernel)
set_option maxRecDepth 20000 in
theorem gX7_worst_X7_isWind : GoodIn wsX7_worst (va_wsS RX7 241 yX7_isWind wsX7_isWind) := goodIn_app (goodIn_of _ (by decide +kernel)) ggX7_worst_X7_isWind
set_option maxRecDepth 20000 in
theorem ggX7_worst_X1_strawCells : GoodIn wsX7_worst wsX1_strawCells := goodIn_r _ [13, 14, 15, 16, 17, 46, 47, 48, 49, 50, 51, 52, 53, 54, 55, 56, 57, 58, 59, 60, 61, 62] (by decide +kernel) (by decide +kernel)
set_option maxRecDepth 20000 in
theorem gX7_worst_X1_strawCells : GoodIn wsX7_worst (wsV RX7 244 RX1 yX1_strawCells wsX1_strawCells) := goodIn_app (goodIn_of _ (by decide +kernel)) ggX7_worst_X1_strawCells
set_option maxRecDepth 20000 in
theorem ggX7_worst_X2_worstSpark : GoodIn wsX7_worst wsX2_worstSpark := goodIn_r _ [21, 22, 23, 4, 24, 25, 26, 20, 27, 28, 29, 30, 31, 32, 33, 34, 35] (by decide +kernel) (by decide +kernel)
set_option maxRecDepth 20000 in
theorem gX7_worst_X2_worstSpark : GoodIn wsX7_worst (va_wsS RX7 254 yX2_worstSpark wsX2_worstSpark) := goodIn_app (goodIn_of _ (by decide +kernel)) ggX7_worst_X2_worstSpark
theorem dX7_worst_0 : decode cX7_worst 0 = .ok (.iload_n 1, 1) := by decide +kernel
theorem dX7_worst_1 : decode cX7_worst 1 = .ok (.invokestatic 241, 3) := by decide +kernel
theorem dX7_worst_4 : decode cX7_worst 4 = .ok (.ifCond .eq 17, 3) := by decide +kernel
theorem dX7_worst_7 : decode cX7_worst 7 = .ok (.aload_n 0, 1) := by decide +kernel
theorem dX7_worst_8 : decode cX7_worst 8 = .ok (.getfield 21, 3) := by decide +kernel
theorem dX7_worst_11 : decode cX7_worst 11 = .ok (.invokevirtual 244, 3) := by decide +kernel
theorem dX7_worst_14 : decode cX7_worst 14 = .ok (.iload_n 1, 1) := by decide +kernel
theorem dX7_worst_15 : decode cX7_worst 15 = .ok (.invokestatic 254, 3) := by decide +kernel
theorem dX7_worst_18 : decode cX7_worst 18 = .ok (.goto 5, 3) := by decide +kernel
theorem dX7_worst_21 : decode cX7_worst 21 = .ok (.bipush (-2), 2) := by decide +kernel
theorem dX7_worst_23 : decode cX7_worst 23 = .ok (.ireturn, 1) := by decide +kernel
set_option maxRecDepth 20000 in
theorem ggX7_clear_X7_isWind : GoodIn wsX7_clear wsX7_isWind := goodIn_r _ [5, 6, 7, 4, 8] (by decide +kernel) (by decide +kernel)
set_option maxRecDepth 20000 in
theorem gX7_clear_X7_isWind : GoodIn wsX7_clear (va_wsS RX7 241 yX7_isWind wsX7_isWind) := goodIn_app (goodIn_of _ (by decide +kernel)) ggX7_clear_X7_isWind
set_option maxRecDepth 20000 in
theorem ggX7_clear_X1_strawCells : GoodIn wsX7_clear wsX1_strawCells := goodIn_r _ [13, 14, 15, 16, 17, 49, 50, 51, 52, 53, 54, 55, 56, 57, 58, 59, 60, 61, 62, 63, 64, 65] (by decide +kernel) (by decide +kernel)
set_option maxRecDepth 20000 in
theorem gX7_clear_X1_strawCells : GoodIn wsX7_clear (wsV RX7 244 RX1 yX1_strawCells wsX1_strawCells) := goodIn_app (goodIn_of _ (by decide +kernel)) ggX7_clear_X1_strawCells
set_option maxRecDepth 20000 in
theorem ggX7_clear_X2_bestCleared : GoodIn wsX7_clear wsX2_bestCleared := goodIn_r _ [21, 22, 23, 4, 24, 25, 26, 20, 27, 28, 29, 30, 31, 32, 33, 34, 35, 36, 37, 38] (by decide +kernel) (by decide +kernel)
set_option maxRecDepth 20000 in
theorem gX7_clear_X2_bestCleared : GoodIn wsX7_clear (va_wsS RX7 258 yX2_bestCleared wsX2_bestCleared) := goodIn_app (goodIn_of _ (by decide +kernel)) ggX7_clear_X2_bestCleared
theorem dX7_clear_0 : decode cX7_clear 0 = .ok (.iload_n 1, 1) := by decide +kernel
theorem dX7_clear_1 : decode cX7_clear 1 = .ok (.invokestatic 241, 3) := by decide +kernel
theorem dX7_clear_4 : decode cX7_clear 4 = .ok (.ifCond .eq 17, 3) := by decide +kernel
theorem dX7_clear_7 : decode cX7_clear 7 = .ok (.aload_n 0, 1) := by decide +kernel
theorem dX7_clear_8 : decode cX7_clear 8 = .ok (.getfield 21, 3) := by decide +kernel
theorem dX7_clear_11 : decode cX7_clear 11 = .ok (.invokevirtual 244, 3) := by decide +kernel
theorem dX7_clear_14 : decode cX7_clear 14 = .ok (.iload_n 1, 1) := by decide +kernel
theorem dX7_clear_15 : decode cX7_clear 15 = .ok (.invokestatic 258, 3) := by decide +kernel
theorem dX7_clear_18 : decode cX7_clear 18 = .ok (.goto 5, 3) := by decide +kernel
theorem dX7_clear_21 : decode cX7_clear 21 = .ok (.bipush (-2), 2) := by decide +kernel
theorem dX7_clear_23 : decode cX7_clear 23 = .ok (.ireturn, 1) := by decide +kernel
set_option maxRecDepth 20000 in
theorem ggX7_offer_X7_isWithin : GoodIn wsX7_offer wsX7_isWithin := goodIn_r _ [10] (by decide +kernel) (by decide +kernel)
set_option maxRecDepth 20000 in
theorem gX7_offer_X7_isWithin : GoodIn wsX7_offer (va_wsS RX7 70 yX7_isWithin wsX7_isWithin) := goodIn_app (goodIn_of _ (by decide +kernel)) ggX7_offer_X7_isWithin
set_option maxRecDepth 20000 in
theorem ggX7_offer_X7_isLength : GoodIn wsX7_offer wsX7_isLength := goodIn_r _ [13, 7, 8, 9, 10] (by decide +kernel) (by decide +kernel)
set_option maxRecDepth 20000 in
theorem gX7_offer_X7_isLength : GoodIn wsX7_offer (va_wsS RX7 111 yX7_isLength wsX7_isLength) := goodIn_app (goodIn_of _ (by decide +kernel)) ggX7_offer_X7_isLength
set_option maxRecDepth 20000 in
theorem ggX7_offer_X7_isThickness : GoodIn wsX7_offer wsX7_isThickness := goodIn_r _ [16, 7, 8, 9, 10] (by decide +kernel) (by decide +kernel)
set_option maxRecDepth 20000 in
theorem gX7_offer_X7_isThickness : GoodIn wsX7_offer (va_wsS RX7 114 yX7_isThickness wsX7_isThickness) := goodIn_app (goodIn_of _ (by decide +kernel)) ggX7_offer_X7_isThickness
set_option maxRecDepth 20000 in
theorem ggX7_offer_X1_bare : GoodIn wsX7_offer wsX1_bare := goodIn_r _ [21, 22, 23, 24, 25, 26, 27, 28, 29, 30, 31, 204, 205, 206, 207, 208, 209, 210, 211, 212, 213] (by decide +kernel) (by decide +kernel)
set_option maxRecDepth 20000 in
theorem gX7_offer_X1_bare : GoodIn wsX7_offer (wsV RX7 78 RX1 yX1_bare wsX1_bare) := goodIn_app (goodIn_of _ (by decide +kernel)) ggX7_offer_X1_bare
set_option maxRecDepth 20000 in
theorem ggX7_offer_X6_leastWay : GoodIn wsX7_offer wsX6_leastWay := goodIn_r _ [36, 37, 38, 39, 40, 41, 42, 43, 44, 45, 46, 47, 48, 35, 49, 50, 51, 52, 53, 54, 55, 56, 9, 57, 58, 59, 60, 61, 62, 63, 64, 65, 66, 67, 68, 69, 70, 71, 72, 73, 74, 75, 76, 77, 78, 79, 80, 81, 82, 83, 84, 85, 86, 87, 88, 89, 90, 91, 92, 93, 94, 95, 96, 97, 98, 99, 100, 101, 102, 103, 104, 105, 106, 107, 108, 109, 110, 111, 112, 113, 114, 115, 116, 117, 118, 119, 120, 121, 122, 123, 124, 125, 126, 127, 128, 129, 130, 131, 132, 8, 10, 214, 215, 216, 217, 218, 197, 198, 199, 200, 201, 202, 203, 219, 220, 221, 222, 223, 224, 225, 226, 227] (by decide +kernel) (by decide +kernel)
set_option maxRecDepth 20000 in
theorem gX7_offer_X6_leastWay : GoodIn wsX7_offer (wsV RX7 207 RX6 yX6_leastWay wsX6_leastWay) := goodIn_app (goodIn_of _ (by decide +kernel)) ggX7_offer_X6_leastWay
set_option maxRecDepth 20000 in
theorem ggX7_offer_X1_addAll : GoodIn wsX7_offer wsX1_addAll := goodIn_r _ [136, 137, 138, 58, 9, 59, 139, 140, 141, 20, 142, 22, 143, 144, 145, 146, 147, 23, 24, 148, 67, 68, 63, 69, 56, 57, 70, 61, 62, 64, 65, 204, 205, 206, 207, 208, 209, 210, 211, 212, 213, 197, 198, 199, 200, 201, 202, 203] (by decide +kernel) (by decide +kernel)
set_option maxRecDepth 20000 in
theorem gX7_offer_X1_addAll : GoodIn wsX7_offer (wsV RX7 263 RX1 yX1_addAll wsX1_addAll) := goodIn_app (goodIn_of _ (by decide +kernel)) ggX7_offer_X1_addAll
set_option maxRecDepth 20000 in
theorem ggX7_offer_X6_firstLeak : GoodIn wsX7_offer wsX6_firstLeak := goodIn_r _ [152, 153, 154, 155, 55, 156, 157, 158, 159, 20, 160, 22, 143, 161, 52, 53, 54, 144, 145, 146, 147, 23, 24, 162, 163, 164, 74, 165, 81, 166, 167, 168, 169, 170, 171, 172, 72, 73, 75, 76, 77, 78, 79, 80, 82, 83, 84, 85, 86, 87, 88, 9, 89, 90, 40, 41, 42, 43, 44, 45, 91, 61, 62, 63, 64, 65, 92, 93, 94, 95, 58, 59, 96, 97, 98, 99, 100, 101, 102, 103, 104, 105, 106, 107, 108, 109, 110, 111, 112, 113, 114, 115, 116, 117, 118, 119, 120, 121, 122, 123, 124, 125, 126, 127, 128, 129, 130, 131, 132, 8, 10, 56, 57, 173, 174, 175, 176, 137, 177, 178, 179, 180, 181, 182, 183, 184, 185, 186, 214, 215, 216, 217, 218, 204, 205, 206, 207, 208, 209, 210, 211, 212, 213, 219, 220, 221, 222, 223, 224, 225, 226, 227, 197, 198, 199, 200, 201, 202, 203] (by decide +kernel) (by decide +kernel)
set_option maxRecDepth 20000 in
theorem gX7_offer_X6_firstLeak : GoodIn wsX7_offer (wsV RX7 194 RX6 yX6_firstLeak wsX6_firstLeak) := goodIn_app (goodIn_of _ (by decide +kernel)) ggX7_offer_X6_firstLeak
theorem dX7_offer_0 : decode cX7_offer 0 = .ok (.iload_n 1, 1) := by decide +kernel
theorem dX7_offer_1 : decode cX7_offer 1 = .ok (.iconst 0, 1) := by decide +kernel
theorem dX7_offer_2 : decode cX7_offer 2 = .ok (.bipush 99, 2) := by decide +kernel
theorem dX7_offer_4 : decode cX7_offer 4 = .ok (.invokestatic 70, 3) := by decide +kernel
theorem dX7_offer_7 : decode cX7_offer 7 = .ok (.ifCond .eq 39, 3) := by decide +kernel
theorem dX7_offer_10 : decode cX7_offer 10 = .ok (.iload_n 2, 1) := by decide +kernel
theorem dX7_offer_11 : decode cX7_offer 11 = .ok (.iconst 0, 1) := by decide +kernel
theorem dX7_offer_12 : decode cX7_offer 12 = .ok (.bipush 99, 2) := by decide +kernel
theorem dX7_offer_14 : decode cX7_offer 14 = .ok (.invokestatic 70, 3) := by decide +kernel
theorem dX7_offer_17 : decode cX7_offer 17 = .ok (.ifCond .eq 29, 3) := by decide +kernel
theorem dX7_offer_20 : decode cX7_offer 20 = .ok (.iload_n 3, 1) := by decide +kernel
theorem dX7_offer_21 : decode cX7_offer 21 = .ok (.invokestatic 111, 3) := by decide +kernel
theorem dX7_offer_24 : decode cX7_offer 24 = .ok (.ifCond .eq 22, 3) := by decide +kernel
theorem dX7_offer_27 : decode cX7_offer 27 = .ok (.iload 4, 2) := by decide +kernel
theorem dX7_offer_29 : decode cX7_offer 29 = .ok (.invokestatic 114, 3) := by decide +kernel
theorem dX7_offer_32 : decode cX7_offer 32 = .ok (.ifCond .eq 14, 3) := by decide +kernel
theorem dX7_offer_35 : decode cX7_offer 35 = .ok (.iload 5, 2) := by decide +kernel
theorem dX7_offer_37 : decode cX7_offer 37 = .ok (.iconst 1, 1) := by decide +kernel
theorem dX7_offer_38 : decode cX7_offer 38 = .ok (.bipush 99, 2) := by decide +kernel
theorem dX7_offer_40 : decode cX7_offer 40 = .ok (.invokestatic 70, 3) := by decide +kernel
theorem dX7_offer_43 : decode cX7_offer 43 = .ok (.ifCond .ne 6, 3) := by decide +kernel
theorem dX7_offer_46 : decode cX7_offer 46 = .ok (.bipush (-2), 2) := by decide +kernel
theorem dX7_offer_48 : decode cX7_offer 48 = .ok (.ireturn, 1) := by decide +kernel
theorem dX7_offer_49 : decode cX7_offer 49 = .ok (.aload_n 0, 1) := by decide +kernel
theorem dX7_offer_50 : decode cX7_offer 50 = .ok (.getfield 31, 3) := by decide +kernel
theorem dX7_offer_53 : decode cX7_offer 53 = .ok (.invokevirtual 78, 3) := by decide +kernel
theorem dX7_offer_56 : decode cX7_offer 56 = .ok (.iconst 0, 1) := by decide +kernel
theorem dX7_offer_57 : decode cX7_offer 57 = .ok (.istore 6, 2) := by decide +kernel
theorem dX7_offer_59 : decode cX7_offer 59 = .ok (.iload 6, 2) := by decide +kernel
theorem dX7_offer_61 : decode cX7_offer 61 = .ok (.aload_n 0, 1) := by decide +kernel
theorem dX7_offer_62 : decode cX7_offer 62 = .ok (.getfield 10, 3) := by decide +kernel
theorem dX7_offer_65 : decode cX7_offer 65 = .ok (.getfield 261, 3) := by decide +kernel
theorem dX7_offer_68 : decode cX7_offer 68 = .ok (.if_icmp .ge 52, 3) := by decide +kernel
theorem dX7_offer_71 : decode cX7_offer 71 = .ok (.aload_n 0, 1) := by decide +kernel
theorem dX7_offer_72 : decode cX7_offer 72 = .ok (.getfield 50, 3) := by decide +kernel
theorem dX7_offer_75 : decode cX7_offer 75 = .ok (.aload_n 0, 1) := by decide +kernel
theorem dX7_offer_76 : decode cX7_offer 76 = .ok (.getfield 31, 3) := by decide +kernel
theorem dX7_offer_79 : decode cX7_offer 79 = .ok (.getfield 100, 3) := by decide +kernel
theorem dX7_offer_82 : decode cX7_offer 82 = .ok (.iload 6, 2) := by decide +kernel
theorem dX7_offer_84 : decode cX7_offer 84 = .ok (.iload_n 3, 1) := by decide +kernel
theorem dX7_offer_85 : decode cX7_offer 85 = .ok (.invokevirtual 207, 3) := by decide +kernel
theorem dX7_offer_88 : decode cX7_offer 88 = .ok (.istore 7, 2) := by decide +kernel
theorem dX7_offer_90 : decode cX7_offer 90 = .ok (.iload 7, 2) := by decide +kernel
theorem dX7_offer_92 : decode cX7_offer 92 = .ok (.bipush (-9), 2) := by decide +kernel
theorem dX7_offer_94 : decode cX7_offer 94 = .ok (.if_icmp .ne 6, 3) := by decide +kernel
theorem dX7_offer_97 : decode cX7_offer 97 = .ok (.bipush (-9), 2) := by decide +kernel
theorem dX7_offer_99 : decode cX7_offer 99 = .ok (.ireturn, 1) := by decide +kernel
theorem dX7_offer_100 : decode cX7_offer 100 = .ok (.aload_n 0, 1) := by decide +kernel
theorem dX7_offer_101 : decode cX7_offer 101 = .ok (.getfield 31, 3) := by decide +kernel
theorem dX7_offer_104 : decode cX7_offer 104 = .ok (.iload 6, 2) := by decide +kernel
theorem dX7_offer_106 : decode cX7_offer 106 = .ok (.iload 7, 2) := by decide +kernel
theorem dX7_offer_108 : decode cX7_offer 108 = .ok (.iload_n 3, 1) := by decide +kernel
theorem dX7_offer_109 : decode cX7_offer 109 = .ok (.iload 4, 2) := by decide +kernel
theorem dX7_offer_111 : decode cX7_offer 111 = .ok (.invokevirtual 263, 3) := by decide +kernel
theorem dX7_offer_114 : decode cX7_offer 114 = .ok (.iinc 6 1, 3) := by decide +kernel
theorem dX7_offer_117 : decode cX7_offer 117 = .ok (.goto (-58), 3) := by decide +kernel
theorem dX7_offer_120 : decode cX7_offer 120 = .ok (.aload_n 0, 1) := by decide +kernel
theorem dX7_offer_121 : decode cX7_offer 121 = .ok (.getfield 50, 3) := by decide +kernel
theorem dX7_offer_124 : decode cX7_offer 124 = .ok (.aload_n 0, 1) := by decide +kernel
theorem dX7_offer_125 : decode cX7_offer 125 = .ok (.getfield 31, 3) := by decide +kernel
theorem dX7_offer_128 : decode cX7_offer 128 = .ok (.invokevirtual 194, 3) := by decide +kernel
theorem dX7_offer_131 : decode cX7_offer 131 = .ok (.istore 6, 2) := by decide +kernel
theorem dX7_offer_133 : decode cX7_offer 133 = .ok (.iload 6, 2) := by decide +kernel
theorem dX7_offer_135 : decode cX7_offer 135 = .ok (.ifCond .ne 6, 3) := by decide +kernel
theorem dX7_offer_138 : decode cX7_offer 138 = .ok (.bipush (-9), 2) := by decide +kernel
theorem dX7_offer_140 : decode cX7_offer 140 = .ok (.ireturn, 1) := by decide +kernel
theorem dX7_offer_141 : decode cX7_offer 141 = .ok (.iload 6, 2) := by decide +kernel
theorem dX7_offer_143 : decode cX7_offer 143 = .ok (.ifCond .le 16, 3) := by decide +kernel
theorem dX7_offer_146 : decode cX7_offer 146 = .ok (.iload 5, 2) := by decide +kernel
theorem dX7_offer_148 : decode cX7_offer 148 = .ok (.iload 6, 2) := by decide +kernel
theorem dX7_offer_150 : decode cX7_offer 150 = .ok (.iadd, 1) := by decide +kernel
theorem dX7_offer_151 : decode cX7_offer 151 = .ok (.iconst 1, 1) := by decide +kernel
theorem dX7_offer_152 : decode cX7_offer 152 = .ok (.isub, 1) := by decide +kernel
theorem dX7_offer_153 : decode cX7_offer 153 = .ok (.iload 6, 2) := by decide +kernel
theorem dX7_offer_155 : decode cX7_offer 155 = .ok (.idiv, 1) := by decide +kernel
theorem dX7_offer_156 : decode cX7_offer 156 = .ok (.goto 4, 3) := by decide +kernel
theorem dX7_offer_159 : decode cX7_offer 159 = .ok (.iconst 1, 1) := by decide +kernel
theorem dX7_offer_160 : decode cX7_offer 160 = .ok (.istore 7, 2) := by decide +kernel
theorem dX7_offer_162 : decode cX7_offer 162 = .ok (.iload 7, 2) := by decide +kernel
theorem dX7_offer_164 : decode cX7_offer 164 = .ok (.aload_n 0, 1) := by decide +kernel
theorem dX7_offer_165 : decode cX7_offer 165 = .ok (.getfield 31, 3) := by decide +kernel
theorem dX7_offer_168 : decode cX7_offer 168 = .ok (.getfield 267, 3) := by decide +kernel
theorem dX7_offer_171 : decode cX7_offer 171 = .ok (.imul, 1) := by decide +kernel
theorem dX7_offer_172 : decode cX7_offer 172 = .ok (.iload_n 1, 1) := by decide +kernel
theorem dX7_offer_173 : decode cX7_offer 173 = .ok (.iload_n 2, 1) := by decide +kernel
theorem dX7_offer_174 : decode cX7_offer 174 = .ok (.iload 4, 2) := by decide +kernel
theorem dX7_offer_176 : decode cX7_offer 176 = .ok (.imul, 1) := by decide +kernel
theorem dX7_offer_177 : decode cX7_offer 177 = .ok (.iadd, 1) := by decide +kernel
theorem dX7_offer_178 : decode cX7_offer 178 = .ok (.imul, 1) := by decide +kernel
theorem dX7_offer_179 : decode cX7_offer 179 = .ok (.ireturn, 1) := by decide +kernel
set_option maxRecDepth 20000 in
theorem ggX7_write_X7_isWithin : GoodIn wsX7_write wsX7_isWithin := goodIn_r _ [5] (by decide +kernel) (by decide +kernel)
set_option maxRecDepth 20000 in
theorem gX7_write_X7_isWithin : GoodIn wsX7_write (va_wsS RX7 70 yX7_isWithin wsX7_isWithin) := goodIn_app (goodIn_of _ (by decide +kernel)) ggX7_write_X7_isWithin
set_option maxRecDepth 20000 in
theorem ggX7_write_X5_append : GoodIn wsX7_write wsX5_append := goodIn_r _ [10, 11, 12, 13, 24, 25] (by decide +kernel) (by decide +kernel)
set_option maxRecDepth 20000 in
theorem gX7_write_X5_append : GoodIn wsX7_write (wsV RX7 270 RX5 yX5_append wsX5_append) := goodIn_app (goodIn_of _ (by decide +kernel)) ggX7_write_X5_append
theorem dX7_write_0 : decode cX7_write 0 = .ok (.iload_n 1, 1) := by decide +kernel
theorem dX7_write_1 : decode cX7_write 1 = .ok (.iconst 1, 1) := by decide +kernel
theorem dX7_write_2 : decode cX7_write 2 = .ok (.bipush 8, 2) := by decide +kernel
theorem dX7_write_4 : decode cX7_write 4 = .ok (.invokestatic 70, 3) := by decide +kernel
theorem dX7_write_7 : decode cX7_write 7 = .ok (.ifCond .ne 6, 3) := by decide +kernel
theorem dX7_write_10 : decode cX7_write 10 = .ok (.bipush (-2), 2) := by decide +kernel
theorem dX7_write_12 : decode cX7_write 12 = .ok (.ireturn, 1) := by decide +kernel
theorem dX7_write_13 : decode cX7_write 13 = .ok (.aload_n 0, 1) := by decide +kernel
theorem dX7_write_14 : decode cX7_write 14 = .ok (.getfield 66, 3) := by decide +kernel
theorem dX7_write_17 : decode cX7_write 17 = .ok (.iload_n 1, 1) := by decide +kernel
theorem dX7_write_18 : decode cX7_write 18 = .ok (.lload_n 2, 1) := by decide +kernel
theorem dX7_write_19 : decode cX7_write 19 = .ok (.invokevirtual 270, 3) := by decide +kernel
theorem dX7_write_22 : decode cX7_write 22 = .ok (.ireturn, 1) := by decide +kernel
theorem dX7_wipe_0 : decode cX7_wipe 0 = .ok (.aload_n 0, 1) := by decide +kernel
theorem dX7_wipe_1 : decode cX7_wipe 1 = .ok (.getfield 66, 3) := by decide +kernel
theorem dX7_wipe_4 : decode cX7_wipe 4 = .ok (.getfield 274, 3) := by decide +kernel
theorem dX7_wipe_7 : decode cX7_wipe 7 = .ok (.istore_n 1, 1) := by decide +kernel
theorem dX7_wipe_8 : decode cX7_wipe 8 = .ok (.aload_n 0, 1) := by decide +kernel
theorem dX7_wipe_9 : decode cX7_wipe 9 = .ok (.getfield 66, 3) := by decide +kernel
theorem dX7_wipe_12 : decode cX7_wipe 12 = .ok (.iconst 0, 1) := by decide +kernel
theorem dX7_wipe_13 : decode cX7_wipe 13 = .ok (.putfield 274, 3) := by decide +kernel
theorem dX7_wipe_16 : decode cX7_wipe 16 = .ok (.iload_n 1, 1) := by decide +kernel
theorem dX7_wipe_17 : decode cX7_wipe 17 = .ok (.ireturn, 1) := by decide +kernel
set_option maxRecDepth 20000 in
theorem ggX7_fault_X5_firstFault : GoodIn wsX7_fault wsX5_firstFault := goodIn_r _ [7, 8, 9, 10, 11, 12, 6, 13, 14, 15, 16, 17, 18, 19, 20, 21, 22, 23, 24, 25, 26, 27, 28, 29, 30, 31, 32, 33, 34, 35, 36, 37, 38, 39, 40, 41, 42, 43, 44, 55, 56, 57, 58, 59, 60, 61, 62, 63] (by decide +kernel) (by decide +kernel)
set_option maxRecDepth 20000 in
theorem gX7_fault_X5_firstFault : GoodIn wsX7_fault (wsV RX7 277 RX5 yX5_firstFault wsX5_firstFault) := goodIn_app (goodIn_of _ (by decide +kernel)) ggX7_fault_X5_firstFault
theorem dX7_fault_0 : decode cX7_fault 0 = .ok (.aload_n 0, 1) := by decide +kernel
theorem dX7_fault_1 : decode cX7_fault 1 = .ok (.getfield 66, 3) := by decide +kernel
theorem dX7_fault_4 : decode cX7_fault 4 = .ok (.aload_n 0, 1) := by decide +kernel
theorem dX7_fault_5 : decode cX7_fault 5 = .ok (.getfield 10, 3) := by decide +kernel
theorem dX7_fault_8 : decode cX7_fault 8 = .ok (.invokevirtual 277, 3) := by decide +kernel
theorem dX7_fault_11 : decode cX7_fault 11 = .ok (.ireturn, 1) := by decide +kernel
set_option maxRecDepth 20000 in
theorem ggX7_done_X5_firstFault : GoodIn wsX7_done wsX5_firstFault := goodIn_r _ [9, 10, 11, 12, 13, 14, 8, 15, 16, 17, 18, 19, 20, 21, 22, 23, 24, 25, 26, 27, 28, 29, 30, 31, 32, 33, 34, 35, 36, 37, 38, 39, 40, 41, 42, 43, 44, 45, 46, 150, 151, 152, 153, 154, 155, 156, 157, 158] (by decide +kernel) (by decide +kernel)
set_option maxRecDepth 20000 in
theorem gX7_done_X5_firstFault : GoodIn wsX7_done (wsV RX7 277 RX5 yX5_firstFault wsX5_firstFault) := goodIn_app (goodIn_of _ (by decide +kernel)) ggX7_done_X5_firstFault
set_option maxRecDepth 20000 in
theorem ggX7_done_X7_carryOut : GoodIn wsX7_done wsX7_carryOut := goodIn_r _ [50, 1, 4, 51, 20, 21, 8, 22, 10, 11, 23, 24, 25, 52, 53, 54, 55, 2, 56, 57, 58, 59, 32, 60, 61, 30, 31, 33, 34, 62, 36, 37, 38, 39, 63, 43, 44, 42, 64, 40, 41, 65, 45, 46, 66, 67, 68, 69, 70, 71, 72, 73, 74, 75, 76, 77, 78, 79, 80, 81, 82, 83, 84, 85, 86, 87, 88, 89, 90, 91, 92, 93, 94, 95, 96, 97, 98, 99, 100, 101, 102, 103, 104, 105, 106, 107, 108, 109, 110, 111, 112, 113, 114, 115, 116, 117, 118, 119, 120, 121, 122, 123, 124, 125, 126, 127, 128, 129, 130, 131, 132, 133, 134, 135, 136, 137, 138, 140, 141, 142, 143, 144, 145, 146, 147, 148, 149, 150, 151, 152, 153, 154, 155, 156, 157, 158, 159, 160, 161, 162, 163, 164, 165, 166, 167, 168] (by decide +kernel) (by decide +kernel)
set_option maxRecDepth 20000 in
theorem gX7_done_X7_carryOut : GoodIn wsX7_done (wsV RX7 281 RX7 yX7_carryOut wsX7_carryOut) := goodIn_app (goodIn_of _ (by decide +kernel)) ggX7_done_X7_carryOut
set_option maxRecDepth 20000 in
theorem ggX7_done_X5_figuresOf : GoodIn wsX7_done wsX5_figuresOf := goodIn_r _ [18] (by decide +kernel) (by decide +kernel)
set_option maxRecDepth 20000 in
theorem gX7_done_X5_figuresOf : GoodIn wsX7_done (va_wsS RX7 287 yX5_figuresOf wsX5_figuresOf) := goodIn_app (goodIn_of _ (by decide +kernel)) ggX7_done_X5_figuresOf
theorem dX7_done_0 : decode cX7_done 0 = .ok (.aload_n 0, 1) := by decide +kernel
theorem dX7_done_1 : decode cX7_done 1 = .ok (.getfield 66, 3) := by decide +kernel
theorem dX7_done_4 : decode cX7_done 4 = .ok (.aload_n 0, 1) := by decide +kernel
theorem dX7_done_5 : decode cX7_done 5 = .ok (.getfield 10, 3) := by decide +kernel
theorem dX7_done_8 : decode cX7_done 8 = .ok (.invokevirtual 277, 3) := by decide +kernel
theorem dX7_done_11 : decode cX7_done 11 = .ok (.bipush (-9), 2) := by decide +kernel
theorem dX7_done_13 : decode cX7_done 13 = .ok (.if_icmp .eq 6, 3) := by decide +kernel
theorem dX7_done_16 : decode cX7_done 16 = .ok (.bipush (-3), 2) := by decide +kernel
theorem dX7_done_18 : decode cX7_done 18 = .ok (.ireturn, 1) := by decide +kernel
theorem dX7_done_19 : decode cX7_done 19 = .ok (.iconst 0, 1) := by decide +kernel
theorem dX7_done_20 : decode cX7_done 20 = .ok (.istore_n 1, 1) := by decide +kernel
theorem dX7_done_21 : decode cX7_done 21 = .ok (.iconst 0, 1) := by decide +kernel
theorem dX7_done_22 : decode cX7_done 22 = .ok (.istore_n 2, 1) := by decide +kernel
theorem dX7_done_23 : decode cX7_done 23 = .ok (.iload_n 2, 1) := by decide +kernel
theorem dX7_done_24 : decode cX7_done 24 = .ok (.aload_n 0, 1) := by decide +kernel
theorem dX7_done_25 : decode cX7_done 25 = .ok (.getfield 66, 3) := by decide +kernel
theorem dX7_done_28 : decode cX7_done 28 = .ok (.getfield 274, 3) := by decide +kernel
theorem dX7_done_31 : decode cX7_done 31 = .ok (.if_icmp .ge 34, 3) := by decide +kernel
theorem dX7_done_34 : decode cX7_done 34 = .ok (.aload_n 0, 1) := by decide +kernel
theorem dX7_done_35 : decode cX7_done 35 = .ok (.iload_n 2, 1) := by decide +kernel
theorem dX7_done_36 : decode cX7_done 36 = .ok (.invokevirtual 281, 3) := by decide +kernel
theorem dX7_done_39 : decode cX7_done 39 = .ok (.ifCond .eq 26, 3) := by decide +kernel
theorem dX7_done_42 : decode cX7_done 42 = .ok (.iinc 1 1, 3) := by decide +kernel
theorem dX7_done_45 : decode cX7_done 45 = .ok (.iload_n 2, 1) := by decide +kernel
theorem dX7_done_46 : decode cX7_done 46 = .ok (.iconst 1, 1) := by decide +kernel
theorem dX7_done_47 : decode cX7_done 47 = .ok (.aload_n 0, 1) := by decide +kernel
theorem dX7_done_48 : decode cX7_done 48 = .ok (.getfield 66, 3) := by decide +kernel
theorem dX7_done_51 : decode cX7_done 51 = .ok (.getfield 284, 3) := by decide +kernel
theorem dX7_done_54 : decode cX7_done 54 = .ok (.iload_n 2, 1) := by decide +kernel
theorem dX7_done_55 : decode cX7_done 55 = .ok (.iaload, 1) := by decide +kernel
theorem dX7_done_56 : decode cX7_done 56 = .ok (.invokestatic 287, 3) := by decide +kernel
theorem dX7_done_59 : decode cX7_done 59 = .ok (.iadd, 1) := by decide +kernel
theorem dX7_done_60 : decode cX7_done 60 = .ok (.iadd, 1) := by decide +kernel
theorem dX7_done_61 : decode cX7_done 61 = .ok (.istore_n 2, 1) := by decide +kernel
theorem dX7_done_62 : decode cX7_done 62 = .ok (.goto (-39), 3) := by decide +kernel
theorem dX7_done_65 : decode cX7_done 65 = .ok (.iload_n 1, 1) := by decide +kernel
theorem dX7_done_66 : decode cX7_done 66 = .ok (.ireturn, 1) := by decide +kernel
set_option maxRecDepth 20000 in
theorem ggX7_carryOut_X5_figure : GoodIn wsX7_carryOut wsX5_figure := goodIn_r _ [7, 8, 9, 10, 11, 12, 127, 128] (by decide +kernel) (by decide +kernel)
set_option maxRecDepth 20000 in
theorem gX7_carryOut_X5_figure : GoodIn wsX7_carryOut (wsV RX7 290 RX5 yX5_figure wsX5_figure) := goodIn_app (goodIn_of _ (by decide +kernel)) ggX7_carryOut_X5_figure
set_option maxRecDepth 20000 in
theorem ggX7_carryOut_X7_lay : GoodIn wsX7_carryOut wsX7_lay := goodIn_r _ [16, 17, 18, 19, 20, 21, 22, 23, 24, 25, 26, 27, 28, 10, 11, 12, 29, 30, 31, 32, 33, 34, 35, 36, 37, 38, 39, 40, 41, 42, 43, 44, 45, 46, 47, 48, 49, 50, 51, 52, 53, 54, 55, 56, 57, 58, 59, 60, 61, 62, 63, 64, 65, 66, 67, 68, 69, 70, 117, 118, 119, 120, 121, 122, 123, 124, 125, 126, 129, 130, 131, 132, 133, 134, 135, 136, 137, 138, 139, 140, 141, 142, 143, 144, 145] (by decide +kernel) (by decide +kernel)
set_option maxRecDepth 20000 in
theorem gX7_carryOut_X7_lay : GoodIn wsX7_carryOut (wsV RX7 293 RX7 yX7_lay wsX7_lay) := goodIn_app (goodIn_of _ (by decide +kernel)) ggX7_carryOut_X7_lay
set_option maxRecDepth 20000 in
theorem ggX7_carryOut_X7_years : GoodIn wsX7_carryOut wsX7_years := goodIn_r _ [74, 18, 37, 10, 11, 12, 75, 76, 77, 55, 78, 63, 79, 80, 65, 81, 82, 83, 84, 85, 86, 87, 88, 89, 90, 91, 92, 93, 94, 64, 95, 96, 97, 98, 99, 100, 101, 102, 117, 118, 119, 120, 121, 122, 123, 124, 125, 126, 136, 137, 138, 139, 140, 141, 142, 143, 144, 145, 129, 130, 131, 132, 133, 134, 135] (by decide +kernel) (by decide +kernel)
set_option maxRecDepth 20000 in
theorem gX7_carryOut_X7_years : GoodIn wsX7_carryOut (wsV RX7 296 RX7 yX7_years wsX7_years) := goodIn_app (goodIn_of _ (by decide +kernel)) ggX7_carryOut_X7_years
set_option maxRecDepth 20000 in
theorem ggX7_carryOut_X7_strip : GoodIn wsX7_carryOut wsX7_strip := goodIn_r _ [106, 17, 18, 107, 25, 26, 22, 27, 28, 10, 11, 12, 37, 108, 109, 110, 55, 111, 63, 112, 113, 114, 115, 116, 65, 45, 46, 82, 83, 84, 85, 86, 87, 88, 89, 90, 91, 92, 93, 94, 64, 95, 96, 97, 98, 99, 100, 101, 102, 117, 118, 119, 120, 121, 122, 123, 124, 125, 126, 129, 130, 131, 132, 133, 134, 135, 136, 137, 138, 139, 140, 141, 142, 143, 144, 145] (by decide +kernel) (by decide +kernel)
set_option maxRecDepth 20000 in
theorem gX7_carryOut_X7_strip : GoodIn wsX7_carryOut (wsV RX7 298 RX7 yX7_strip wsX7_strip) := goodIn_app (goodIn_of _ (by decide +kernel)) ggX7_carryOut_X7_strip
theorem dX7_carryOut_0 : decode cX7_carryOut 0 = .ok (.aload_n 0, 1) := by decide +kernel
theorem dX7_carryOut_1 : decode cX7_carryOut 1 = .ok (.getfield 66, 3) := by decide +kernel
theorem dX7_carryOut_4 : decode cX7_carryOut 4 = .ok (.iload_n 1, 1) := by decide +kernel
theorem dX7_carryOut_5 : decode cX7_carryOut 5 = .ok (.iconst 1, 1) := by decide +kernel
theorem dX7_carryOut_6 : decode cX7_carryOut 6 = .ok (.iadd, 1) := by decide +kernel
theorem dX7_carryOut_7 : decode cX7_carryOut 7 = .ok (.invokevirtual 290, 3) := by decide +kernel
theorem dX7_carryOut_10 : decode cX7_carryOut 10 = .ok (.istore_n 2, 1) := by decide +kernel
theorem dX7_carryOut_11 : decode cX7_carryOut 11 = .ok (.aload_n 0, 1) := by decide +kernel
theorem dX7_carryOut_12 : decode cX7_carryOut 12 = .ok (.getfield 66, 3) := by decide +kernel
theorem dX7_carryOut_15 : decode cX7_carryOut 15 = .ok (.getfield 284, 3) := by decide +kernel
theorem dX7_carryOut_18 : decode cX7_carryOut 18 = .ok (.iload_n 1, 1) := by decide +kernel
theorem dX7_carryOut_19 : decode cX7_carryOut 19 = .ok (.iaload, 1) := by decide +kernel
theorem dX7_carryOut_20 : decode cX7_carryOut 20 = .ok (.lookupswitch 96 #[(66, 28), (89, 82)], 28) := by decide +kernel
theorem dX7_carryOut_48 : decode cX7_carryOut 48 = .ok (.aload_n 0, 1) := by decide +kernel
theorem dX7_carryOut_49 : decode cX7_carryOut 49 = .ok (.iload_n 2, 1) := by decide +kernel
theorem dX7_carryOut_50 : decode cX7_carryOut 50 = .ok (.aload_n 0, 1) := by decide +kernel
theorem dX7_carryOut_51 : decode cX7_carryOut 51 = .ok (.getfield 66, 3) := by decide +kernel
theorem dX7_carryOut_54 : decode cX7_carryOut 54 = .ok (.iload_n 1, 1) := by decide +kernel
theorem dX7_carryOut_55 : decode cX7_carryOut 55 = .ok (.iconst 2, 1) := by decide +kernel
theorem dX7_carryOut_56 : decode cX7_carryOut 56 = .ok (.iadd, 1) := by decide +kernel
theorem dX7_carryOut_57 : decode cX7_carryOut 57 = .ok (.invokevirtual 290, 3) := by decide +kernel
theorem dX7_carryOut_60 : decode cX7_carryOut 60 = .ok (.aload_n 0, 1) := by decide +kernel
theorem dX7_carryOut_61 : decode cX7_carryOut 61 = .ok (.getfield 66, 3) := by decide +kernel
theorem dX7_carryOut_64 : decode cX7_carryOut 64 = .ok (.iload_n 1, 1) := by decide +kernel
theorem dX7_carryOut_65 : decode cX7_carryOut 65 = .ok (.iconst 3, 1) := by decide +kernel
theorem dX7_carryOut_66 : decode cX7_carryOut 66 = .ok (.iadd, 1) := by decide +kernel
theorem dX7_carryOut_67 : decode cX7_carryOut 67 = .ok (.invokevirtual 290, 3) := by decide +kernel
theorem dX7_carryOut_70 : decode cX7_carryOut 70 = .ok (.aload_n 0, 1) := by decide +kernel
theorem dX7_carryOut_71 : decode cX7_carryOut 71 = .ok (.getfield 66, 3) := by decide +kernel
theorem dX7_carryOut_74 : decode cX7_carryOut 74 = .ok (.iload_n 1, 1) := by decide +kernel
theorem dX7_carryOut_75 : decode cX7_carryOut 75 = .ok (.iconst 4, 1) := by decide +kernel
theorem dX7_carryOut_76 : decode cX7_carryOut 76 = .ok (.iadd, 1) := by decide +kernel
theorem dX7_carryOut_77 : decode cX7_carryOut 77 = .ok (.invokevirtual 290, 3) := by decide +kernel
theorem dX7_carryOut_80 : decode cX7_carryOut 80 = .ok (.aload_n 0, 1) := by decide +kernel
theorem dX7_carryOut_81 : decode cX7_carryOut 81 = .ok (.getfield 66, 3) := by decide +kernel
theorem dX7_carryOut_84 : decode cX7_carryOut 84 = .ok (.iload_n 1, 1) := by decide +kernel
theorem dX7_carryOut_85 : decode cX7_carryOut 85 = .ok (.iconst 5, 1) := by decide +kernel
theorem dX7_carryOut_86 : decode cX7_carryOut 86 = .ok (.iadd, 1) := by decide +kernel
theorem dX7_carryOut_87 : decode cX7_carryOut 87 = .ok (.invokevirtual 290, 3) := by decide +kernel
theorem dX7_carryOut_90 : decode cX7_carryOut 90 = .ok (.invokevirtual 293, 3) := by decide +kernel
theorem dX7_carryOut_93 : decode cX7_carryOut 93 = .ok (.ifCond .lt 7, 3) := by decide +kernel
theorem dX7_carryOut_96 : decode cX7_carryOut 96 = .ok (.iconst 1, 1) := by decide +kernel
theorem dX7_carryOut_97 : decode cX7_carryOut 97 = .ok (.goto 4, 3) := by decide +kernel
theorem dX7_carryOut_100 : decode cX7_carryOut 100 = .ok (.iconst 0, 1) := by decide +kernel
theorem dX7_carryOut_101 : decode cX7_carryOut 101 = .ok (.ireturn, 1) := by decide +kernel
theorem dX7_carryOut_102 : decode cX7_carryOut 102 = .ok (.aload_n 0, 1) := by decide +kernel
theorem dX7_carryOut_103 : decode cX7_carryOut 103 = .ok (.iload_n 2, 1) := by decide +kernel
theorem dX7_carryOut_104 : decode cX7_carryOut 104 = .ok (.invokevirtual 296, 3) := by decide +kernel
theorem dX7_carryOut_107 : decode cX7_carryOut 107 = .ok (.ifCond .lt 7, 3) := by decide +kernel
theorem dX7_carryOut_110 : decode cX7_carryOut 110 = .ok (.iconst 1, 1) := by decide +kernel
theorem dX7_carryOut_111 : decode cX7_carryOut 111 = .ok (.goto 4, 3) := by decide +kernel
theorem dX7_carryOut_114 : decode cX7_carryOut 114 = .ok (.iconst 0, 1) := by decide +kernel
theorem dX7_carryOut_115 : decode cX7_carryOut 115 = .ok (.ireturn, 1) := by decide +kernel
theorem dX7_carryOut_116 : decode cX7_carryOut 116 = .ok (.aload_n 0, 1) := by decide +kernel
theorem dX7_carryOut_117 : decode cX7_carryOut 117 = .ok (.iload_n 2, 1) := by decide +kernel
theorem dX7_carryOut_118 : decode cX7_carryOut 118 = .ok (.aload_n 0, 1) := by decide +kernel
theorem dX7_carryOut_119 : decode cX7_carryOut 119 = .ok (.getfield 66, 3) := by decide +kernel
theorem dX7_carryOut_122 : decode cX7_carryOut 122 = .ok (.iload_n 1, 1) := by decide +kernel
theorem dX7_carryOut_123 : decode cX7_carryOut 123 = .ok (.iconst 2, 1) := by decide +kernel
theorem dX7_carryOut_124 : decode cX7_carryOut 124 = .ok (.iadd, 1) := by decide +kernel
theorem dX7_carryOut_125 : decode cX7_carryOut 125 = .ok (.invokevirtual 290, 3) := by decide +kernel
theorem dX7_carryOut_128 : decode cX7_carryOut 128 = .ok (.invokevirtual 298, 3) := by decide +kernel
theorem dX7_carryOut_131 : decode cX7_carryOut 131 = .ok (.ifCond .lt 7, 3) := by decide +kernel
theorem dX7_carryOut_134 : decode cX7_carryOut 134 = .ok (.iconst 1, 1) := by decide +kernel
theorem dX7_carryOut_135 : decode cX7_carryOut 135 = .ok (.goto 4, 3) := by decide +kernel
theorem dX7_carryOut_138 : decode cX7_carryOut 138 = .ok (.iconst 0, 1) := by decide +kernel
theorem dX7_carryOut_139 : decode cX7_carryOut 139 = .ok (.ireturn, 1) := by decide +kernel
set_option maxRecDepth 20000 in
theorem ggX7_keep_X7_isSlot : GoodIn wsX7_keep wsX7_isSlot := goodIn_r _ [7, 8, 9, 6, 10] (by decide +kernel) (by decide +kernel)
set_option maxRecDepth 20000 in
theorem gX7_keep_X7_isSlot : GoodIn wsX7_keep (va_wsS RX7 301 yX7_isSlot wsX7_isSlot) := goodIn_app (goodIn_of _ (by decide +kernel)) ggX7_keep_X7_isSlot
set_option maxRecDepth 20000 in
theorem ggX7_keep_X7_coatsOf : GoodIn wsX7_keep wsX7_coatsOf := goodIn_r _ [14, 15, 16, 34, 35, 36, 37, 38, 39, 40, 41, 42, 43] (by decide +kernel) (by decide +kernel)
set_option maxRecDepth 20000 in
theorem gX7_keep_X7_coatsOf : GoodIn wsX7_keep (wsV RX7 304 RX7 yX7_coatsOf wsX7_coatsOf) := goodIn_app (goodIn_of _ (by decide +kernel)) ggX7_keep_X7_coatsOf
set_option maxRecDepth 20000 in
theorem ggX7_keep_X1_become : GoodIn wsX7_keep wsX1_become := goodIn_r _ [21, 22, 23, 24, 25, 26, 27, 28, 29, 30, 31, 32, 33, 44, 45, 46, 47, 48, 49, 50, 51, 52, 53] (by decide +kernel) (by decide +kernel)
set_option maxRecDepth 20000 in
theorem gX7_keep_X1_become : GoodIn wsX7_keep (wsV RX7 308 RX1 yX1_become wsX1_become) := goodIn_app (goodIn_of _ (by decide +kernel)) ggX7_keep_X1_become
theorem dX7_keep_0 : decode cX7_keep 0 = .ok (.iload_n 1, 1) := by decide +kernel
theorem dX7_keep_1 : decode cX7_keep 1 = .ok (.invokestatic 301, 3) := by decide +kernel
theorem dX7_keep_4 : decode cX7_keep 4 = .ok (.ifCond .ne 5, 3) := by decide +kernel
theorem dX7_keep_7 : decode cX7_keep 7 = .ok (.iconst (-1), 1) := by decide +kernel
theorem dX7_keep_8 : decode cX7_keep 8 = .ok (.ireturn, 1) := by decide +kernel
theorem dX7_keep_9 : decode cX7_keep 9 = .ok (.aload_n 0, 1) := by decide +kernel
theorem dX7_keep_10 : decode cX7_keep 10 = .ok (.iload_n 1, 1) := by decide +kernel
theorem dX7_keep_11 : decode cX7_keep 11 = .ok (.invokevirtual 304, 3) := by decide +kernel
theorem dX7_keep_14 : decode cX7_keep 14 = .ok (.aload_n 0, 1) := by decide +kernel
theorem dX7_keep_15 : decode cX7_keep 15 = .ok (.getfield 21, 3) := by decide +kernel
theorem dX7_keep_18 : decode cX7_keep 18 = .ok (.invokevirtual 308, 3) := by decide +kernel
theorem dX7_keep_21 : decode cX7_keep 21 = .ok (.aload_n 0, 1) := by decide +kernel
theorem dX7_keep_22 : decode cX7_keep 22 = .ok (.getfield 34, 3) := by decide +kernel
theorem dX7_keep_25 : decode cX7_keep 25 = .ok (.iload_n 1, 1) := by decide +kernel
theorem dX7_keep_26 : decode cX7_keep 26 = .ok (.iconst 1, 1) := by decide +kernel
theorem dX7_keep_27 : decode cX7_keep 27 = .ok (.bastore, 1) := by decide +kernel
theorem dX7_keep_28 : decode cX7_keep 28 = .ok (.aload_n 0, 1) := by decide +kernel
theorem dX7_keep_29 : decode cX7_keep 29 = .ok (.getfield 21, 3) := by decide +kernel
theorem dX7_keep_32 : decode cX7_keep 32 = .ok (.getfield 267, 3) := by decide +kernel
theorem dX7_keep_35 : decode cX7_keep 35 = .ok (.ireturn, 1) := by decide +kernel
set_option maxRecDepth 20000 in
theorem ggX7_again_X7_isSlot : GoodIn wsX7_again wsX7_isSlot := goodIn_r _ [7, 8, 9, 6, 10] (by decide +kernel) (by decide +kernel)
set_option maxRecDepth 20000 in
theorem gX7_again_X7_isSlot : GoodIn wsX7_again (va_wsS RX7 301 yX7_isSlot wsX7_isSlot) := goodIn_app (goodIn_of _ (by decide +kernel)) ggX7_again_X7_isSlot
set_option maxRecDepth 20000 in
theorem ggX7_again_X7_coatsOf : GoodIn wsX7_again wsX7_coatsOf := goodIn_r _ [14, 15, 16, 47, 48, 49, 50, 51, 52, 53, 54, 55, 56] (by decide +kernel) (by decide +kernel)
set_option maxRecDepth 20000 in
theorem gX7_again_X7_coatsOf : GoodIn wsX7_again (wsV RX7 304 RX7 yX7_coatsOf wsX7_coatsOf) := goodIn_app (goodIn_of _ (by decide +kernel)) ggX7_again_X7_coatsOf
set_option maxRecDepth 20000 in
theorem ggX7_again_X1_lieOnOpening : GoodIn wsX7_again wsX1_lieOnOpening := goodIn_r _ [21, 22, 23, 24, 25, 26, 27, 28, 29, 30, 31, 57, 58, 59, 60, 61, 62, 63, 64, 65, 66, 67, 68, 69, 70, 71, 72, 73] (by decide +kernel) (by decide +kernel)
set_option maxRecDepth 20000 in
theorem gX7_again_X1_lieOnOpening : GoodIn wsX7_again (wsV RX7 311 RX1 yX1_lieOnOpening wsX1_lieOnOpening) := goodIn_app (goodIn_of _ (by decide +kernel)) ggX7_again_X1_lieOnOpening
set_option maxRecDepth 20000 in
theorem ggX7_again_X1_become : GoodIn wsX7_again wsX1_become := goodIn_r _ [35, 36, 37, 38, 39, 40, 41, 42, 43, 44, 45, 46, 24, 57, 58, 59, 60, 61, 62, 63, 64, 65, 66] (by decide +kernel) (by decide +kernel)
set_option maxRecDepth 20000 in
theorem gX7_again_X1_become : GoodIn wsX7_again (wsV RX7 308 RX1 yX1_become wsX1_become) := goodIn_app (goodIn_of _ (by decide +kernel)) ggX7_again_X1_become
theorem dX7_again_0 : decode cX7_again 0 = .ok (.iload_n 1, 1) := by decide +kernel
theorem dX7_again_1 : decode cX7_again 1 = .ok (.invokestatic 301, 3) := by decide +kernel
theorem dX7_again_4 : decode cX7_again 4 = .ok (.ifCond .ne 5, 3) := by decide +kernel
theorem dX7_again_7 : decode cX7_again 7 = .ok (.iconst (-1), 1) := by decide +kernel
theorem dX7_again_8 : decode cX7_again 8 = .ok (.ireturn, 1) := by decide +kernel
theorem dX7_again_9 : decode cX7_again 9 = .ok (.aload_n 0, 1) := by decide +kernel
theorem dX7_again_10 : decode cX7_again 10 = .ok (.getfield 34, 3) := by decide +kernel
theorem dX7_again_13 : decode cX7_again 13 = .ok (.iload_n 1, 1) := by decide +kernel
theorem dX7_again_14 : decode cX7_again 14 = .ok (.baload, 1) := by decide +kernel
theorem dX7_again_15 : decode cX7_again 15 = .ok (.ifCond .eq 14, 3) := by decide +kernel
theorem dX7_again_18 : decode cX7_again 18 = .ok (.aload_n 0, 1) := by decide +kernel
theorem dX7_again_19 : decode cX7_again 19 = .ok (.iload_n 1, 1) := by decide +kernel
theorem dX7_again_20 : decode cX7_again 20 = .ok (.invokevirtual 304, 3) := by decide +kernel
theorem dX7_again_23 : decode cX7_again 23 = .ok (.invokevirtual 311, 3) := by decide +kernel
theorem dX7_again_26 : decode cX7_again 26 = .ok (.ifCond .eq 6, 3) := by decide +kernel
theorem dX7_again_29 : decode cX7_again 29 = .ok (.bipush (-3), 2) := by decide +kernel
theorem dX7_again_31 : decode cX7_again 31 = .ok (.ireturn, 1) := by decide +kernel
theorem dX7_again_32 : decode cX7_again 32 = .ok (.aload_n 0, 1) := by decide +kernel
theorem dX7_again_33 : decode cX7_again 33 = .ok (.getfield 21, 3) := by decide +kernel
theorem dX7_again_36 : decode cX7_again 36 = .ok (.aload_n 0, 1) := by decide +kernel
theorem dX7_again_37 : decode cX7_again 37 = .ok (.iload_n 1, 1) := by decide +kernel
theorem dX7_again_38 : decode cX7_again 38 = .ok (.invokevirtual 304, 3) := by decide +kernel
theorem dX7_again_41 : decode cX7_again 41 = .ok (.invokevirtual 308, 3) := by decide +kernel
theorem dX7_again_44 : decode cX7_again 44 = .ok (.aload_n 0, 1) := by decide +kernel
theorem dX7_again_45 : decode cX7_again 45 = .ok (.getfield 21, 3) := by decide +kernel
theorem dX7_again_48 : decode cX7_again 48 = .ok (.getfield 267, 3) := by decide +kernel
theorem dX7_again_51 : decode cX7_again 51 = .ok (.ireturn, 1) := by decide +kernel
set_option maxRecDepth 20000 in
theorem ggX7_count_X1_countRemaining : GoodIn wsX7_count wsX1_countRemaining := goodIn_r _ [12, 13, 14, 15, 16, 11, 17, 18, 48, 49, 50, 51, 52, 53, 54, 55, 56, 57] (by decide +kernel) (by decide +kernel)
set_option maxRecDepth 20000 in
theorem gX7_count_X1_countRemaining : GoodIn wsX7_count (wsV RX7 315 RX1 yX1_countRemaining wsX1_countRemaining) := goodIn_app (goodIn_of _ (by decide +kernel)) ggX7_count_X1_countRemaining
set_option maxRecDepth 20000 in
theorem ggX7_count_X3_countOpenings : GoodIn wsX7_count wsX3_countOpenings := goodIn_r _ [23, 24, 25, 26, 27, 28, 22, 29, 30, 41, 42, 43, 44, 45, 46, 47] (by decide +kernel) (by decide +kernel)
set_option maxRecDepth 20000 in
theorem gX7_count_X3_countOpenings : GoodIn wsX7_count (wsV RX7 318 RX3 yX3_countOpenings wsX3_countOpenings) := goodIn_app (goodIn_of _ (by decide +kernel)) ggX7_count_X3_countOpenings
theorem dX7_count_0 : decode cX7_count 0 = .ok (.iload_n 1, 1) := by decide +kernel
theorem dX7_count_1 : decode cX7_count 1 = .ok (.tableswitch 87 0 5 #[39, 47, 55, 63, 71, 79], 39) := by decide +kernel
theorem dX7_count_40 : decode cX7_count 40 = .ok (.aload_n 0, 1) := by decide +kernel
theorem dX7_count_41 : decode cX7_count 41 = .ok (.getfield 10, 3) := by decide +kernel
theorem dX7_count_44 : decode cX7_count 44 = .ok (.getfield 261, 3) := by decide +kernel
theorem dX7_count_47 : decode cX7_count 47 = .ok (.ireturn, 1) := by decide +kernel
theorem dX7_count_48 : decode cX7_count 48 = .ok (.aload_n 0, 1) := by decide +kernel
theorem dX7_count_49 : decode cX7_count 49 = .ok (.getfield 10, 3) := by decide +kernel
theorem dX7_count_52 : decode cX7_count 52 = .ok (.getfield 211, 3) := by decide +kernel
theorem dX7_count_55 : decode cX7_count 55 = .ok (.ireturn, 1) := by decide +kernel
theorem dX7_count_56 : decode cX7_count 56 = .ok (.aload_n 0, 1) := by decide +kernel
theorem dX7_count_57 : decode cX7_count 57 = .ok (.getfield 21, 3) := by decide +kernel
theorem dX7_count_60 : decode cX7_count 60 = .ok (.getfield 267, 3) := by decide +kernel
theorem dX7_count_63 : decode cX7_count 63 = .ok (.ireturn, 1) := by decide +kernel
theorem dX7_count_64 : decode cX7_count 64 = .ok (.aload_n 0, 1) := by decide +kernel
theorem dX7_count_65 : decode cX7_count 65 = .ok (.getfield 21, 3) := by decide +kernel
theorem dX7_count_68 : decode cX7_count 68 = .ok (.invokevirtual 315, 3) := by decide +kernel
theorem dX7_count_71 : decode cX7_count 71 = .ok (.ireturn, 1) := by decide +kernel
theorem dX7_count_72 : decode cX7_count 72 = .ok (.aload_n 0, 1) := by decide +kernel
theorem dX7_count_73 : decode cX7_count 73 = .ok (.getfield 10, 3) := by decide +kernel
theorem dX7_count_76 : decode cX7_count 76 = .ok (.invokevirtual 318, 3) := by decide +kernel
theorem dX7_count_79 : decode cX7_count 79 = .ok (.ireturn, 1) := by decide +kernel
theorem dX7_count_80 : decode cX7_count 80 = .ok (.aload_n 0, 1) := by decide +kernel
theorem dX7_count_81 : decode cX7_count 81 = .ok (.getfield 66, 3) := by decide +kernel
theorem dX7_count_84 : decode cX7_count 84 = .ok (.getfield 274, 3) := by decide +kernel
theorem dX7_count_87 : decode cX7_count 87 = .ok (.ireturn, 1) := by decide +kernel
theorem dX7_count_88 : decode cX7_count 88 = .ok (.bipush (-2), 2) := by decide +kernel
theorem dX7_count_90 : decode cX7_count 90 = .ok (.ireturn, 1) := by decide +kernel
theorem dX7_coatsOf_0 : decode cX7_coatsOf 0 = .ok (.iload_n 1, 1) := by decide +kernel
theorem dX7_coatsOf_1 : decode cX7_coatsOf 1 = .ok (.ifCond .ne 10, 3) := by decide +kernel
theorem dX7_coatsOf_4 : decode cX7_coatsOf 4 = .ok (.aload_n 0, 1) := by decide +kernel
theorem dX7_coatsOf_5 : decode cX7_coatsOf 5 = .ok (.getfield 25, 3) := by decide +kernel
theorem dX7_coatsOf_8 : decode cX7_coatsOf 8 = .ok (.goto 7, 3) := by decide +kernel
theorem dX7_coatsOf_11 : decode cX7_coatsOf 11 = .ok (.aload_n 0, 1) := by decide +kernel
theorem dX7_coatsOf_12 : decode cX7_coatsOf 12 = .ok (.getfield 28, 3) := by decide +kernel
theorem dX7_coatsOf_15 : decode cX7_coatsOf 15 = .ok (.areturn, 1) := by decide +kernel
set_option maxRecDepth 20000 in
theorem ggX7_isSlot_X7_isWithin : GoodIn wsX7_isSlot wsX7_isWithin := goodIn_r _ [4] (by decide +kernel) (by decide +kernel)
set_option maxRecDepth 20000 in
theorem gX7_isSlot_X7_isWithin : GoodIn wsX7_isSlot (va_wsS RX7 70 yX7_isWithin wsX7_isWithin) := goodIn_app (goodIn_of _ (by decide +kernel)) ggX7_isSlot_X7_isWithin
theorem dX7_isSlot_0 : decode cX7_isSlot 0 = .ok (.iload_n 0, 1) := by decide +kernel
theorem dX7_isSlot_1 : decode cX7_isSlot 1 = .ok (.iconst 0, 1) := by decide +kernel
theorem dX7_isSlot_2 : decode cX7_isSlot 2 = .ok (.iconst 1, 1) := by decide +kernel
theorem dX7_isSlot_3 : decode cX7_isSlot 3 = .ok (.invokestatic 70, 3) := by decide +kernel
theorem dX7_isSlot_6 : decode cX7_isSlot 6 = .ok (.ireturn, 1) := by decide +kernel
set_option maxRecDepth 20000 in
theorem ggX7_isSort_X7_isWithin : GoodIn wsX7_isSort wsX7_isWithin := goodIn_r _ [4] (by decide +kernel) (by decide +kernel)
set_option maxRecDepth 20000 in
theorem gX7_isSort_X7_isWithin : GoodIn wsX7_isSort (va_wsS RX7 70 yX7_isWithin wsX7_isWithin) := goodIn_app (goodIn_of _ (by decide +kernel)) ggX7_isSort_X7_isWithin
theorem dX7_isSort_0 : decode cX7_isSort 0 = .ok (.iload_n 0, 1) := by decide +kernel
theorem dX7_isSort_1 : decode cX7_isSort 1 = .ok (.iconst 0, 1) := by decide +kernel
theorem dX7_isSort_2 : decode cX7_isSort 2 = .ok (.iconst 5, 1) := by decide +kernel
theorem dX7_isSort_3 : decode cX7_isSort 3 = .ok (.invokestatic 70, 3) := by decide +kernel
theorem dX7_isSort_6 : decode cX7_isSort 6 = .ok (.ireturn, 1) := by decide +kernel
set_option maxRecDepth 20000 in
theorem ggX7_isLength_X7_isWithin : GoodIn wsX7_isLength wsX7_isWithin := goodIn_r _ [4] (by decide +kernel) (by decide +kernel)
set_option maxRecDepth 20000 in
theorem gX7_isLength_X7_isWithin : GoodIn wsX7_isLength (va_wsS RX7 70 yX7_isWithin wsX7_isWithin) := goodIn_app (goodIn_of _ (by decide +kernel)) ggX7_isLength_X7_isWithin
theorem dX7_isLength_0 : decode cX7_isLength 0 = .ok (.iload_n 0, 1) := by decide +kernel
theorem dX7_isLength_1 : decode cX7_isLength 1 = .ok (.iconst 1, 1) := by decide +kernel
theorem dX7_isLength_2 : decode cX7_isLength 2 = .ok (.iconst 3, 1) := by decide +kernel
theorem dX7_isLength_3 : decode cX7_isLength 3 = .ok (.invokestatic 70, 3) := by decide +kernel
theorem dX7_isLength_6 : decode cX7_isLength 6 = .ok (.ireturn, 1) := by decide +kernel
set_option maxRecDepth 20000 in
theorem ggX7_isThickness_X7_isWithin : GoodIn wsX7_isThickness wsX7_isWithin := goodIn_r _ [4] (by decide +kernel) (by decide +kernel)
set_option maxRecDepth 20000 in
theorem gX7_isThickness_X7_isWithin : GoodIn wsX7_isThickness (va_wsS RX7 70 yX7_isWithin wsX7_isWithin) := goodIn_app (goodIn_of _ (by decide +kernel)) ggX7_isThickness_X7_isWithin
theorem dX7_isThickness_0 : decode cX7_isThickness 0 = .ok (.iload_n 0, 1) := by decide +kernel
theorem dX7_isThickness_1 : decode cX7_isThickness 1 = .ok (.iconst 1, 1) := by decide +kernel
theorem dX7_isThickness_2 : decode cX7_isThickness 2 = .ok (.bipush 9, 2) := by decide +kernel
theorem dX7_isThickness_4 : decode cX7_isThickness 4 = .ok (.invokestatic 70, 3) := by decide +kernel
theorem dX7_isThickness_7 : decode cX7_isThickness 7 = .ok (.ireturn, 1) := by decide +kernel
set_option maxRecDepth 20000 in
theorem ggX7_isWind_X7_isWithin : GoodIn wsX7_isWind wsX7_isWithin := goodIn_r _ [4] (by decide +kernel) (by decide +kernel)
set_option maxRecDepth 20000 in
theorem gX7_isWind_X7_isWithin : GoodIn wsX7_isWind (va_wsS RX7 70 yX7_isWithin wsX7_isWithin) := goodIn_app (goodIn_of _ (by decide +kernel)) ggX7_isWind_X7_isWithin
theorem dX7_isWind_0 : decode cX7_isWind 0 = .ok (.iload_n 0, 1) := by decide +kernel
theorem dX7_isWind_1 : decode cX7_isWind 1 = .ok (.iconst 0, 1) := by decide +kernel
theorem dX7_isWind_2 : decode cX7_isWind 2 = .ok (.iconst 4, 1) := by decide +kernel
theorem dX7_isWind_3 : decode cX7_isWind 3 = .ok (.invokestatic 70, 3) := by decide +kernel
theorem dX7_isWind_6 : decode cX7_isWind 6 = .ok (.ireturn, 1) := by decide +kernel
theorem dX7_isWithin_0 : decode cX7_isWithin 0 = .ok (.iload_n 0, 1) := by decide +kernel
theorem dX7_isWithin_1 : decode cX7_isWithin 1 = .ok (.iload_n 1, 1) := by decide +kernel
theorem dX7_isWithin_2 : decode cX7_isWithin 2 = .ok (.if_icmp .lt 12, 3) := by decide +kernel
theorem dX7_isWithin_5 : decode cX7_isWithin 5 = .ok (.iload_n 0, 1) := by decide +kernel
theorem dX7_isWithin_6 : decode cX7_isWithin 6 = .ok (.iload_n 2, 1) := by decide +kernel
theorem dX7_isWithin_7 : decode cX7_isWithin 7 = .ok (.if_icmp .gt 7, 3) := by decide +kernel
theorem dX7_isWithin_10 : decode cX7_isWithin 10 = .ok (.iconst 1, 1) := by decide +kernel
theorem dX7_isWithin_11 : decode cX7_isWithin 11 = .ok (.goto 4, 3) := by decide +kernel
theorem dX7_isWithin_14 : decode cX7_isWithin 14 = .ok (.iconst 0, 1) := by decide +kernel
theorem dX7_isWithin_15 : decode cX7_isWithin 15 = .ok (.ireturn, 1) := by decide +kernel
theorem dX7_cellOf_0 : decode cX7_cellOf 0 = .ok (.bipush 10, 2) := by decide +kernel
theorem dX7_cellOf_2 : decode cX7_cellOf 2 = .ok (.iload_n 0, 1) := by decide +kernel
theorem dX7_cellOf_3 : decode cX7_cellOf 3 = .ok (.imul, 1) := by decide +kernel
theorem dX7_cellOf_4 : decode cX7_cellOf 4 = .ok (.iload_n 1, 1) := by decide +kernel
theorem dX7_cellOf_5 : decode cX7_cellOf 5 = .ok (.iadd, 1) := by decide +kernel
theorem dX7_cellOf_6 : decode cX7_cellOf 6 = .ok (.ireturn, 1) := by decide +kernel
theorem dX7_columnOf_0 : decode cX7_columnOf 0 = .ok (.iload_n 0, 1) := by decide +kernel
theorem dX7_columnOf_1 : decode cX7_columnOf 1 = .ok (.bipush 10, 2) := by decide +kernel
theorem dX7_columnOf_3 : decode cX7_columnOf 3 = .ok (.idiv, 1) := by decide +kernel
theorem dX7_columnOf_4 : decode cX7_columnOf 4 = .ok (.ireturn, 1) := by decide +kernel
theorem dX7_rowOf_0 : decode cX7_rowOf 0 = .ok (.iload_n 0, 1) := by decide +kernel
theorem dX7_rowOf_1 : decode cX7_rowOf 1 = .ok (.bipush 10, 2) := by decide +kernel
theorem dX7_rowOf_3 : decode cX7_rowOf 3 = .ok (.irem, 1) := by decide +kernel
theorem dX7_rowOf_4 : decode cX7_rowOf 4 = .ok (.ireturn, 1) := by decide +kernel
set_option maxRecDepth 20000 in
theorem ggX7_greatest_J13_bitCount_95d88 : GoodIn wsX7_greatest wsJ13_bitCount_95d88 := goodIn_r _ [4, 5, 6, 7] (by decide +kernel) (by decide +kernel)
set_option maxRecDepth 20000 in
theorem gX7_greatest_J13_bitCount_95d88 : GoodIn wsX7_greatest (va_wsS RX7 162 yJ13_bitCount_95d88 wsJ13_bitCount_95d88) := goodIn_app (goodIn_of _ (by decide +kernel)) ggX7_greatest_J13_bitCount_95d88
theorem dX7_greatest_0 : decode cX7_greatest 0 = .ok (.lload_n 0, 1) := by decide +kernel
theorem dX7_greatest_1 : decode cX7_greatest 1 = .ok (.lstore_n 2, 1) := by decide +kernel
theorem dX7_greatest_2 : decode cX7_greatest 2 = .ok (.iconst 1, 1) := by decide +kernel
theorem dX7_greatest_3 : decode cX7_greatest 3 = .ok (.istore 4, 2) := by decide +kernel
theorem dX7_greatest_5 : decode cX7_greatest 5 = .ok (.iload 4, 2) := by decide +kernel
theorem dX7_greatest_7 : decode cX7_greatest 7 = .ok (.bipush 64, 2) := by decide +kernel
theorem dX7_greatest_9 : decode cX7_greatest 9 = .ok (.if_icmp .ge 20, 3) := by decide +kernel
theorem dX7_greatest_12 : decode cX7_greatest 12 = .ok (.lload_n 2, 1) := by decide +kernel
theorem dX7_greatest_13 : decode cX7_greatest 13 = .ok (.lload_n 2, 1) := by decide +kernel
theorem dX7_greatest_14 : decode cX7_greatest 14 = .ok (.iload 4, 2) := by decide +kernel
theorem dX7_greatest_16 : decode cX7_greatest 16 = .ok (.lushr, 1) := by decide +kernel
theorem dX7_greatest_17 : decode cX7_greatest 17 = .ok (.lor, 1) := by decide +kernel
theorem dX7_greatest_18 : decode cX7_greatest 18 = .ok (.lstore_n 2, 1) := by decide +kernel
theorem dX7_greatest_19 : decode cX7_greatest 19 = .ok (.iload 4, 2) := by decide +kernel
theorem dX7_greatest_21 : decode cX7_greatest 21 = .ok (.iload 4, 2) := by decide +kernel
theorem dX7_greatest_23 : decode cX7_greatest 23 = .ok (.iadd, 1) := by decide +kernel
theorem dX7_greatest_24 : decode cX7_greatest 24 = .ok (.istore 4, 2) := by decide +kernel
theorem dX7_greatest_26 : decode cX7_greatest 26 = .ok (.goto (-21), 3) := by decide +kernel
theorem dX7_greatest_29 : decode cX7_greatest 29 = .ok (.lload_n 2, 1) := by decide +kernel
theorem dX7_greatest_30 : decode cX7_greatest 30 = .ok (.lconst 0, 1) := by decide +kernel
theorem dX7_greatest_31 : decode cX7_greatest 31 = .ok (.lcmp, 1) := by decide +kernel
theorem dX7_greatest_32 : decode cX7_greatest 32 = .ok (.ifCond .ne 8, 3) := by decide +kernel
theorem dX7_greatest_35 : decode cX7_greatest 35 = .ok (.bipush (-9), 2) := by decide +kernel
theorem dX7_greatest_37 : decode cX7_greatest 37 = .ok (.goto 9, 3) := by decide +kernel
theorem dX7_greatest_40 : decode cX7_greatest 40 = .ok (.lload_n 2, 1) := by decide +kernel
theorem dX7_greatest_41 : decode cX7_greatest 41 = .ok (.invokestatic 162, 3) := by decide +kernel
theorem dX7_greatest_44 : decode cX7_greatest 44 = .ok (.iconst 1, 1) := by decide +kernel
theorem dX7_greatest_45 : decode cX7_greatest 45 = .ok (.isub, 1) := by decide +kernel
theorem dX7_greatest_46 : decode cX7_greatest 46 = .ok (.ireturn, 1) := by decide +kernel
theorem dX7_isIn_0 : decode cX7_isIn 0 = .ok (.lload_n 0, 1) := by decide +kernel
theorem dX7_isIn_1 : decode cX7_isIn 1 = .ok (.iload_n 2, 1) := by decide +kernel
theorem dX7_isIn_2 : decode cX7_isIn 2 = .ok (.lushr, 1) := by decide +kernel
theorem dX7_isIn_3 : decode cX7_isIn 3 = .ok (.lconst 1, 1) := by decide +kernel
theorem dX7_isIn_4 : decode cX7_isIn 4 = .ok (.land, 1) := by decide +kernel
theorem dX7_isIn_5 : decode cX7_isIn 5 = .ok (.lconst 0, 1) := by decide +kernel
theorem dX7_isIn_6 : decode cX7_isIn 6 = .ok (.lcmp, 1) := by decide +kernel
theorem dX7_isIn_7 : decode cX7_isIn 7 = .ok (.ifCond .eq 7, 3) := by decide +kernel
theorem dX7_isIn_10 : decode cX7_isIn 10 = .ok (.iconst 1, 1) := by decide +kernel
theorem dX7_isIn_11 : decode cX7_isIn 11 = .ok (.goto 4, 3) := by decide +kernel
theorem dX7_isIn_14 : decode cX7_isIn 14 = .ok (.iconst 0, 1) := by decide +kernel
theorem dX7_isIn_15 : decode cX7_isIn 15 = .ok (.ireturn, 1) := by decide +kernel
