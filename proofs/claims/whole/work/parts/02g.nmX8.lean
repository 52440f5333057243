theorem dX8_off_17 : decode cX8_off 17 = .ok (.iconst 0, 1) := by decide +kernel
theorem dX8_off_18 : decode cX8_off 18 = .ok (.istore_n 3, 1) := by decide +kernel
theorem dX8_off_19 : decode cX8_off 19 = .ok (.iload_n 3, 1) := by decide +kernel
theorem dX8_off_20 : decode cX8_off 20 = .ok (.aload_n 0, 1) := by decide +kernel
theorem dX8_off_21 : decode cX8_off 21 = .ok (.getfield 7, 3) := by decide +kernel
theorem dX8_off_24 : decode cX8_off 24 = .ok (.if_icmp .ge 51, 3) := by decide +kernel
theorem dX8_off_27 : decode cX8_off 27 = .ok (.iconst 0, 1) := by decide +kernel
theorem dX8_off_28 : decode cX8_off 28 = .ok (.istore 4, 2) := by decide +kernel
theorem dX8_off_30 : decode cX8_off 30 = .ok (.iload 4, 2) := by decide +kernel
theorem dX8_off_32 : decode cX8_off 32 = .ok (.aload_n 0, 1) := by decide +kernel
theorem dX8_off_33 : decode cX8_off 33 = .ok (.getfield 13, 3) := by decide +kernel
theorem dX8_off_36 : decode cX8_off 36 = .ok (.if_icmp .ge 33, 3) := by decide +kernel
theorem dX8_off_39 : decode cX8_off 39 = .ok (.aload_n 0, 1) := by decide +kernel
theorem dX8_off_40 : decode cX8_off 40 = .ok (.iload_n 3, 1) := by decide +kernel
theorem dX8_off_41 : decode cX8_off 41 = .ok (.iload 4, 2) := by decide +kernel
theorem dX8_off_43 : decode cX8_off 43 = .ok (.invokevirtual 180, 3) := by decide +kernel
theorem dX8_off_46 : decode cX8_off 46 = .ok (.pop, 1) := by decide +kernel
theorem dX8_off_47 : decode cX8_off 47 = .ok (.iload_n 2, 1) := by decide +kernel
theorem dX8_off_48 : decode cX8_off 48 = .ok (.aload_n 0, 1) := by decide +kernel
theorem dX8_off_49 : decode cX8_off 49 = .ok (.getfield 169, 3) := by decide +kernel
theorem dX8_off_52 : decode cX8_off 52 = .ok (.iload_n 1, 1) := by decide +kernel
theorem dX8_off_53 : decode cX8_off 53 = .ok (.if_icmp .ne 7, 3) := by decide +kernel
theorem dX8_off_56 : decode cX8_off 56 = .ok (.iconst 1, 1) := by decide +kernel
theorem dX8_off_57 : decode cX8_off 57 = .ok (.goto 4, 3) := by decide +kernel
theorem dX8_off_60 : decode cX8_off 60 = .ok (.iconst 0, 1) := by decide +kernel
theorem dX8_off_61 : decode cX8_off 61 = .ok (.iadd, 1) := by decide +kernel
theorem dX8_off_62 : decode cX8_off 62 = .ok (.istore_n 2, 1) := by decide +kernel
theorem dX8_off_63 : decode cX8_off 63 = .ok (.iinc 4 1, 3) := by decide +kernel
theorem dX8_off_66 : decode cX8_off 66 = .ok (.goto (-36), 3) := by decide +kernel
theorem dX8_off_69 : decode cX8_off 69 = .ok (.iinc 3 1, 3) := by decide +kernel
theorem dX8_off_72 : decode cX8_off 72 = .ok (.goto (-53), 3) := by decide +kernel
theorem dX8_off_75 : decode cX8_off 75 = .ok (.iload_n 2, 1) := by decide +kernel
theorem dX8_off_76 : decode cX8_off 76 = .ok (.ireturn, 1) := by decide +kernel
set_option maxRecDepth 20000 in
theorem ggX8_passYear_X8_topOf : GoodIn wsX8_passYear wsX8_topOf := goodIn_r _ [11, 12, 5, 13, 14, 15, 16, 17, 18, 19, 20, 21, 22, 23, 24, 25, 26, 27, 28, 29, 30, 31, 32, 33, 34, 35, 36, 37, 38, 39, 40, 41, 42, 43, 44, 45, 46, 47, 48, 49, 50, 51, 52, 53, 54] (by decide +kernel) (by decide +kernel)
set_option maxRecDepth 20000 in
theorem gX8_passYear_X8_topOf : GoodIn wsX8_passYear (wsV RX8 144 RX8 yX8_topOf wsX8_topOf) := goodIn_app (goodIn_of _ (by decide +kernel)) ggX8_passYear_X8_topOf
theorem dX8_passYear_0 : decode cX8_passYear 0 = .ok (.iconst 0, 1) := by decide +kernel
theorem dX8_passYear_1 : decode cX8_passYear 1 = .ok (.istore_n 1, 1) := by decide +kernel
theorem dX8_passYear_2 : decode cX8_passYear 2 = .ok (.iconst 0, 1) := by decide +kernel
theorem dX8_passYear_3 : decode cX8_passYear 3 = .ok (.istore_n 2, 1) := by decide +kernel
theorem dX8_passYear_4 : decode cX8_passYear 4 = .ok (.iload_n 2, 1) := by decide +kernel
theorem dX8_passYear_5 : decode cX8_passYear 5 = .ok (.aload_n 0, 1) := by decide +kernel
theorem dX8_passYear_6 : decode cX8_passYear 6 = .ok (.getfield 7, 3) := by decide +kernel
theorem dX8_passYear_9 : decode cX8_passYear 9 = .ok (.if_icmp .ge 46, 3) := by decide +kernel
theorem dX8_passYear_12 : decode cX8_passYear 12 = .ok (.iconst 0, 1) := by decide +kernel
theorem dX8_passYear_13 : decode cX8_passYear 13 = .ok (.istore_n 3, 1) := by decide +kernel
theorem dX8_passYear_14 : decode cX8_passYear 14 = .ok (.iload_n 3, 1) := by decide +kernel
theorem dX8_passYear_15 : decode cX8_passYear 15 = .ok (.aload_n 0, 1) := by decide +kernel
theorem dX8_passYear_16 : decode cX8_passYear 16 = .ok (.getfield 13, 3) := by decide +kernel
theorem dX8_passYear_19 : decode cX8_passYear 19 = .ok (.if_icmp .ge 30, 3) := by decide +kernel
theorem dX8_passYear_22 : decode cX8_passYear 22 = .ok (.aload_n 0, 1) := by decide +kernel
theorem dX8_passYear_23 : decode cX8_passYear 23 = .ok (.getfield 96, 3) := by decide +kernel
theorem dX8_passYear_26 : decode cX8_passYear 26 = .ok (.bipush 6, 2) := by decide +kernel
theorem dX8_passYear_28 : decode cX8_passYear 28 = .ok (.iload_n 2, 1) := by decide +kernel
theorem dX8_passYear_29 : decode cX8_passYear 29 = .ok (.imul, 1) := by decide +kernel
theorem dX8_passYear_30 : decode cX8_passYear 30 = .ok (.iload_n 3, 1) := by decide +kernel
theorem dX8_passYear_31 : decode cX8_passYear 31 = .ok (.iadd, 1) := by decide +kernel
theorem dX8_passYear_32 : decode cX8_passYear 32 = .ok (.aload_n 0, 1) := by decide +kernel
theorem dX8_passYear_33 : decode cX8_passYear 33 = .ok (.iload_n 2, 1) := by decide +kernel
theorem dX8_passYear_34 : decode cX8_passYear 34 = .ok (.iload_n 3, 1) := by decide +kernel
theorem dX8_passYear_35 : decode cX8_passYear 35 = .ok (.aload_n 0, 1) := by decide +kernel
theorem dX8_passYear_36 : decode cX8_passYear 36 = .ok (.getfield 131, 3) := by decide +kernel
theorem dX8_passYear_39 : decode cX8_passYear 39 = .ok (.invokevirtual 144, 3) := by decide +kernel
theorem dX8_passYear_42 : decode cX8_passYear 42 = .ok (.iastore, 1) := by decide +kernel
theorem dX8_passYear_43 : decode cX8_passYear 43 = .ok (.iinc 3 1, 3) := by decide +kernel
theorem dX8_passYear_46 : decode cX8_passYear 46 = .ok (.goto (-32), 3) := by decide +kernel
theorem dX8_passYear_49 : decode cX8_passYear 49 = .ok (.iinc 2 1, 3) := by decide +kernel
theorem dX8_passYear_52 : decode cX8_passYear 52 = .ok (.goto (-48), 3) := by decide +kernel
theorem dX8_passYear_55 : decode cX8_passYear 55 = .ok (.iconst 0, 1) := by decide +kernel
theorem dX8_passYear_56 : decode cX8_passYear 56 = .ok (.istore_n 2, 1) := by decide +kernel
theorem dX8_passYear_57 : decode cX8_passYear 57 = .ok (.iload_n 2, 1) := by decide +kernel
theorem dX8_passYear_58 : decode cX8_passYear 58 = .ok (.aload_n 0, 1) := by decide +kernel
theorem dX8_passYear_59 : decode cX8_passYear 59 = .ok (.getfield 7, 3) := by decide +kernel
theorem dX8_passYear_62 : decode cX8_passYear 62 = .ok (.if_icmp .ge 121, 3) := by decide +kernel
theorem dX8_passYear_65 : decode cX8_passYear 65 = .ok (.iconst 0, 1) := by decide +kernel
theorem dX8_passYear_66 : decode cX8_passYear 66 = .ok (.istore_n 3, 1) := by decide +kernel
theorem dX8_passYear_67 : decode cX8_passYear 67 = .ok (.iload_n 3, 1) := by decide +kernel
theorem dX8_passYear_68 : decode cX8_passYear 68 = .ok (.aload_n 0, 1) := by decide +kernel
theorem dX8_passYear_69 : decode cX8_passYear 69 = .ok (.getfield 13, 3) := by decide +kernel
theorem dX8_passYear_72 : decode cX8_passYear 72 = .ok (.if_icmp .ge 105, 3) := by decide +kernel
theorem dX8_passYear_75 : decode cX8_passYear 75 = .ok (.aload_n 0, 1) := by decide +kernel
theorem dX8_passYear_76 : decode cX8_passYear 76 = .ok (.getfield 96, 3) := by decide +kernel
theorem dX8_passYear_79 : decode cX8_passYear 79 = .ok (.bipush 6, 2) := by decide +kernel
theorem dX8_passYear_81 : decode cX8_passYear 81 = .ok (.iload_n 2, 1) := by decide +kernel
theorem dX8_passYear_82 : decode cX8_passYear 82 = .ok (.imul, 1) := by decide +kernel
theorem dX8_passYear_83 : decode cX8_passYear 83 = .ok (.iload_n 3, 1) := by decide +kernel
theorem dX8_passYear_84 : decode cX8_passYear 84 = .ok (.iadd, 1) := by decide +kernel
theorem dX8_passYear_85 : decode cX8_passYear 85 = .ok (.iaload, 1) := by decide +kernel
theorem dX8_passYear_86 : decode cX8_passYear 86 = .ok (.istore 4, 2) := by decide +kernel
theorem dX8_passYear_88 : decode cX8_passYear 88 = .ok (.iload 4, 2) := by decide +kernel
theorem dX8_passYear_90 : decode cX8_passYear 90 = .ok (.bipush (-9), 2) := by decide +kernel
theorem dX8_passYear_92 : decode cX8_passYear 92 = .ok (.if_icmp .eq 79, 3) := by decide +kernel
theorem dX8_passYear_95 : decode cX8_passYear 95 = .ok (.aload_n 0, 1) := by decide +kernel
theorem dX8_passYear_96 : decode cX8_passYear 96 = .ok (.getfield 41, 3) := by decide +kernel
theorem dX8_passYear_99 : decode cX8_passYear 99 = .ok (.bipush 6, 2) := by decide +kernel
theorem dX8_passYear_101 : decode cX8_passYear 101 = .ok (.iload 4, 2) := by decide +kernel
theorem dX8_passYear_103 : decode cX8_passYear 103 = .ok (.imul, 1) := by decide +kernel
theorem dX8_passYear_104 : decode cX8_passYear 104 = .ok (.iload_n 3, 1) := by decide +kernel
theorem dX8_passYear_105 : decode cX8_passYear 105 = .ok (.iadd, 1) := by decide +kernel
theorem dX8_passYear_106 : decode cX8_passYear 106 = .ok (.iaload, 1) := by decide +kernel
theorem dX8_passYear_107 : decode cX8_passYear 107 = .ok (.aload_n 0, 1) := by decide +kernel
theorem dX8_passYear_108 : decode cX8_passYear 108 = .ok (.getfield 23, 3) := by decide +kernel
theorem dX8_passYear_111 : decode cX8_passYear 111 = .ok (.bipush 6, 2) := by decide +kernel
theorem dX8_passYear_113 : decode cX8_passYear 113 = .ok (.iload_n 2, 1) := by decide +kernel
theorem dX8_passYear_114 : decode cX8_passYear 114 = .ok (.imul, 1) := by decide +kernel
theorem dX8_passYear_115 : decode cX8_passYear 115 = .ok (.iload_n 3, 1) := by decide +kernel
theorem dX8_passYear_116 : decode cX8_passYear 116 = .ok (.iadd, 1) := by decide +kernel
theorem dX8_passYear_117 : decode cX8_passYear 117 = .ok (.iaload, 1) := by decide +kernel
theorem dX8_passYear_118 : decode cX8_passYear 118 = .ok (.if_icmp .ge 18, 3) := by decide +kernel
theorem dX8_passYear_121 : decode cX8_passYear 121 = .ok (.aload_n 0, 1) := by decide +kernel
theorem dX8_passYear_122 : decode cX8_passYear 122 = .ok (.getfield 41, 3) := by decide +kernel
theorem dX8_passYear_125 : decode cX8_passYear 125 = .ok (.bipush 6, 2) := by decide +kernel
theorem dX8_passYear_127 : decode cX8_passYear 127 = .ok (.iload 4, 2) := by decide +kernel
theorem dX8_passYear_129 : decode cX8_passYear 129 = .ok (.imul, 1) := by decide +kernel
theorem dX8_passYear_130 : decode cX8_passYear 130 = .ok (.iload_n 3, 1) := by decide +kernel
theorem dX8_passYear_131 : decode cX8_passYear 131 = .ok (.iadd, 1) := by decide +kernel
theorem dX8_passYear_132 : decode cX8_passYear 132 = .ok (.iaload, 1) := by decide +kernel
theorem dX8_passYear_133 : decode cX8_passYear 133 = .ok (.goto 14, 3) := by decide +kernel
theorem dX8_passYear_136 : decode cX8_passYear 136 = .ok (.aload_n 0, 1) := by decide +kernel
theorem dX8_passYear_137 : decode cX8_passYear 137 = .ok (.getfield 23, 3) := by decide +kernel
theorem dX8_passYear_140 : decode cX8_passYear 140 = .ok (.bipush 6, 2) := by decide +kernel
theorem dX8_passYear_142 : decode cX8_passYear 142 = .ok (.iload_n 2, 1) := by decide +kernel
theorem dX8_passYear_143 : decode cX8_passYear 143 = .ok (.imul, 1) := by decide +kernel
theorem dX8_passYear_144 : decode cX8_passYear 144 = .ok (.iload_n 3, 1) := by decide +kernel
theorem dX8_passYear_145 : decode cX8_passYear 145 = .ok (.iadd, 1) := by decide +kernel
theorem dX8_passYear_146 : decode cX8_passYear 146 = .ok (.iaload, 1) := by decide +kernel
theorem dX8_passYear_147 : decode cX8_passYear 147 = .ok (.istore 5, 2) := by decide +kernel
theorem dX8_passYear_149 : decode cX8_passYear 149 = .ok (.aload_n 0, 1) := by decide +kernel
theorem dX8_passYear_150 : decode cX8_passYear 150 = .ok (.getfield 41, 3) := by decide +kernel
theorem dX8_passYear_153 : decode cX8_passYear 153 = .ok (.bipush 6, 2) := by decide +kernel
theorem dX8_passYear_155 : decode cX8_passYear 155 = .ok (.iload 4, 2) := by decide +kernel
theorem dX8_passYear_157 : decode cX8_passYear 157 = .ok (.imul, 1) := by decide +kernel
theorem dX8_passYear_158 : decode cX8_passYear 158 = .ok (.iload_n 3, 1) := by decide +kernel
theorem dX8_passYear_159 : decode cX8_passYear 159 = .ok (.iadd, 1) := by decide +kernel
theorem dX8_passYear_160 : decode cX8_passYear 160 = .ok (.dup2, 1) := by decide +kernel
theorem dX8_passYear_161 : decode cX8_passYear 161 = .ok (.iaload, 1) := by decide +kernel
theorem dX8_passYear_162 : decode cX8_passYear 162 = .ok (.iload 5, 2) := by decide +kernel
theorem dX8_passYear_164 : decode cX8_passYear 164 = .ok (.isub, 1) := by decide +kernel
theorem dX8_passYear_165 : decode cX8_passYear 165 = .ok (.iastore, 1) := by decide +kernel
theorem dX8_passYear_166 : decode cX8_passYear 166 = .ok (.iload_n 1, 1) := by decide +kernel
theorem dX8_passYear_167 : decode cX8_passYear 167 = .ok (.iload 5, 2) := by decide +kernel
theorem dX8_passYear_169 : decode cX8_passYear 169 = .ok (.iadd, 1) := by decide +kernel
theorem dX8_passYear_170 : decode cX8_passYear 170 = .ok (.istore_n 1, 1) := by decide +kernel
theorem dX8_passYear_171 : decode cX8_passYear 171 = .ok (.iinc 3 1, 3) := by decide +kernel
theorem dX8_passYear_174 : decode cX8_passYear 174 = .ok (.goto (-107), 3) := by decide +kernel
theorem dX8_passYear_177 : decode cX8_passYear 177 = .ok (.iinc 2 1, 3) := by decide +kernel
theorem dX8_passYear_180 : decode cX8_passYear 180 = .ok (.goto (-123), 3) := by decide +kernel
theorem dX8_passYear_183 : decode cX8_passYear 183 = .ok (.iload_n 1, 1) := by decide +kernel
theorem dX8_passYear_184 : decode cX8_passYear 184 = .ok (.ireturn, 1) := by decide +kernel
set_option maxRecDepth 20000 in
theorem ggX8_years_X8_in : GoodIn wsX8_years wsX8_in := goodIn_r _ [6] (by decide +kernel) (by decide +kernel)
set_option maxRecDepth 20000 in
theorem gX8_years_X8_in : GoodIn wsX8_years (va_wsS RX8 123 yX8_in wsX8_in) := goodIn_app (goodIn_of _ (by decide +kernel)) ggX8_years_X8_in
set_option maxRecDepth 20000 in
theorem ggX8_years_X8_passYear : GoodIn wsX8_years wsX8_passYear := goodIn_r _ [10, 11, 12, 13, 14, 15, 16, 17, 18, 19, 5, 20, 21, 22, 23, 24, 25, 26, 27, 28, 29, 30, 31, 32, 33, 34, 35, 36, 37, 38, 39, 40, 41, 42, 43, 44, 45, 46, 47, 48, 49, 50, 51, 52, 53, 54, 55, 56, 57, 58, 59, 60, 61, 62, 63] (by decide +kernel) (by decide +kernel)
set_option maxRecDepth 20000 in
theorem gX8_years_X8_passYear : GoodIn wsX8_years (wsV RX8 190 RX8 yX8_passYear wsX8_passYear) := goodIn_app (goodIn_of _ (by decide +kernel)) ggX8_years_X8_passYear
theorem dX8_years_0 : decode cX8_years 0 = .ok (.aload_n 0, 1) := by decide +kernel
theorem dX8_years_1 : decode cX8_years 1 = .ok (.iconst 0, 1) := by decide +kernel
theorem dX8_years_2 : decode cX8_years 2 = .ok (.putfield 120, 3) := by decide +kernel
theorem dX8_years_5 : decode cX8_years 5 = .ok (.iload_n 1, 1) := by decide +kernel
theorem dX8_years_6 : decode cX8_years 6 = .ok (.i2l, 1) := by decide +kernel
theorem dX8_years_7 : decode cX8_years 7 = .ok (.lconst 1, 1) := by decide +kernel
theorem dX8_years_8 : decode cX8_years 8 = .ok (.ldc2_w 188, 3) := by decide +kernel
theorem dX8_years_11 : decode cX8_years 11 = .ok (.invokestatic 123, 3) := by decide +kernel
theorem dX8_years_14 : decode cX8_years 14 = .ok (.ifCond .ne 6, 3) := by decide +kernel
theorem dX8_years_17 : decode cX8_years 17 = .ok (.bipush (-2), 2) := by decide +kernel
theorem dX8_years_19 : decode cX8_years 19 = .ok (.ireturn, 1) := by decide +kernel
theorem dX8_years_20 : decode cX8_years 20 = .ok (.iconst 0, 1) := by decide +kernel
theorem dX8_years_21 : decode cX8_years 21 = .ok (.istore_n 2, 1) := by decide +kernel
theorem dX8_years_22 : decode cX8_years 22 = .ok (.iconst 0, 1) := by decide +kernel
theorem dX8_years_23 : decode cX8_years 23 = .ok (.istore_n 3, 1) := by decide +kernel
theorem dX8_years_24 : decode cX8_years 24 = .ok (.iload_n 3, 1) := by decide +kernel
theorem dX8_years_25 : decode cX8_years 25 = .ok (.iload_n 1, 1) := by decide +kernel
theorem dX8_years_26 : decode cX8_years 26 = .ok (.if_icmp .ge 16, 3) := by decide +kernel
theorem dX8_years_29 : decode cX8_years 29 = .ok (.iload_n 2, 1) := by decide +kernel
theorem dX8_years_30 : decode cX8_years 30 = .ok (.aload_n 0, 1) := by decide +kernel
theorem dX8_years_31 : decode cX8_years 31 = .ok (.invokevirtual 190, 3) := by decide +kernel
theorem dX8_years_34 : decode cX8_years 34 = .ok (.iadd, 1) := by decide +kernel
theorem dX8_years_35 : decode cX8_years 35 = .ok (.istore_n 2, 1) := by decide +kernel
theorem dX8_years_36 : decode cX8_years 36 = .ok (.iinc 3 1, 3) := by decide +kernel
theorem dX8_years_39 : decode cX8_years 39 = .ok (.goto (-15), 3) := by decide +kernel
theorem dX8_years_42 : decode cX8_years 42 = .ok (.iload_n 2, 1) := by decide +kernel
theorem dX8_years_43 : decode cX8_years 43 = .ok (.ireturn, 1) := by decide +kernel
theorem dX8_hold_0 : decode cX8_hold 0 = .ok (.aload_n 0, 1) := by decide +kernel
theorem dX8_hold_1 : decode cX8_hold 1 = .ok (.aload_n 0, 1) := by decide +kernel
theorem dX8_hold_2 : decode cX8_hold 2 = .ok (.getfield 131, 3) := by decide +kernel
theorem dX8_hold_5 : decode cX8_hold 5 = .ok (.putfield 193, 3) := by decide +kernel
theorem dX8_hold_8 : decode cX8_hold 8 = .ok (.iconst 0, 1) := by decide +kernel
theorem dX8_hold_9 : decode cX8_hold 9 = .ok (.istore_n 1, 1) := by decide +kernel
theorem dX8_hold_10 : decode cX8_hold 10 = .ok (.iload_n 1, 1) := by decide +kernel
theorem dX8_hold_11 : decode cX8_hold 11 = .ok (.bipush 80, 2) := by decide +kernel
theorem dX8_hold_13 : decode cX8_hold 13 = .ok (.if_icmp .ge 69, 3) := by decide +kernel
theorem dX8_hold_16 : decode cX8_hold 16 = .ok (.aload_n 0, 1) := by decide +kernel
theorem dX8_hold_17 : decode cX8_hold 17 = .ok (.getfield 44, 3) := by decide +kernel
theorem dX8_hold_20 : decode cX8_hold 20 = .ok (.iload_n 1, 1) := by decide +kernel
theorem dX8_hold_21 : decode cX8_hold 21 = .ok (.aload_n 0, 1) := by decide +kernel
theorem dX8_hold_22 : decode cX8_hold 22 = .ok (.getfield 26, 3) := by decide +kernel
theorem dX8_hold_25 : decode cX8_hold 25 = .ok (.iload_n 1, 1) := by decide +kernel
theorem dX8_hold_26 : decode cX8_hold 26 = .ok (.iaload, 1) := by decide +kernel
theorem dX8_hold_27 : decode cX8_hold 27 = .ok (.iastore, 1) := by decide +kernel
theorem dX8_hold_28 : decode cX8_hold 28 = .ok (.aload_n 0, 1) := by decide +kernel
theorem dX8_hold_29 : decode cX8_hold 29 = .ok (.getfield 47, 3) := by decide +kernel
theorem dX8_hold_32 : decode cX8_hold 32 = .ok (.iload_n 1, 1) := by decide +kernel
theorem dX8_hold_33 : decode cX8_hold 33 = .ok (.aload_n 0, 1) := by decide +kernel
theorem dX8_hold_34 : decode cX8_hold 34 = .ok (.getfield 29, 3) := by decide +kernel
theorem dX8_hold_37 : decode cX8_hold 37 = .ok (.iload_n 1, 1) := by decide +kernel
theorem dX8_hold_38 : decode cX8_hold 38 = .ok (.iaload, 1) := by decide +kernel
theorem dX8_hold_39 : decode cX8_hold 39 = .ok (.iastore, 1) := by decide +kernel
theorem dX8_hold_40 : decode cX8_hold 40 = .ok (.aload_n 0, 1) := by decide +kernel
theorem dX8_hold_41 : decode cX8_hold 41 = .ok (.getfield 50, 3) := by decide +kernel
theorem dX8_hold_44 : decode cX8_hold 44 = .ok (.iload_n 1, 1) := by decide +kernel
theorem dX8_hold_45 : decode cX8_hold 45 = .ok (.aload_n 0, 1) := by decide +kernel
theorem dX8_hold_46 : decode cX8_hold 46 = .ok (.getfield 32, 3) := by decide +kernel
theorem dX8_hold_49 : decode cX8_hold 49 = .ok (.iload_n 1, 1) := by decide +kernel
theorem dX8_hold_50 : decode cX8_hold 50 = .ok (.iaload, 1) := by decide +kernel
theorem dX8_hold_51 : decode cX8_hold 51 = .ok (.iastore, 1) := by decide +kernel
theorem dX8_hold_52 : decode cX8_hold 52 = .ok (.aload_n 0, 1) := by decide +kernel
theorem dX8_hold_53 : decode cX8_hold 53 = .ok (.getfield 53, 3) := by decide +kernel
theorem dX8_hold_56 : decode cX8_hold 56 = .ok (.iload_n 1, 1) := by decide +kernel
theorem dX8_hold_57 : decode cX8_hold 57 = .ok (.aload_n 0, 1) := by decide +kernel
theorem dX8_hold_58 : decode cX8_hold 58 = .ok (.getfield 35, 3) := by decide +kernel
theorem dX8_hold_61 : decode cX8_hold 61 = .ok (.iload_n 1, 1) := by decide +kernel
theorem dX8_hold_62 : decode cX8_hold 62 = .ok (.iaload, 1) := by decide +kernel
theorem dX8_hold_63 : decode cX8_hold 63 = .ok (.iastore, 1) := by decide +kernel
theorem dX8_hold_64 : decode cX8_hold 64 = .ok (.aload_n 0, 1) := by decide +kernel
theorem dX8_hold_65 : decode cX8_hold 65 = .ok (.getfield 56, 3) := by decide +kernel
theorem dX8_hold_68 : decode cX8_hold 68 = .ok (.iload_n 1, 1) := by decide +kernel
theorem dX8_hold_69 : decode cX8_hold 69 = .ok (.aload_n 0, 1) := by decide +kernel
theorem dX8_hold_70 : decode cX8_hold 70 = .ok (.getfield 38, 3) := by decide +kernel
theorem dX8_hold_73 : decode cX8_hold 73 = .ok (.iload_n 1, 1) := by decide +kernel
theorem dX8_hold_74 : decode cX8_hold 74 = .ok (.iaload, 1) := by decide +kernel
theorem dX8_hold_75 : decode cX8_hold 75 = .ok (.iastore, 1) := by decide +kernel
theorem dX8_hold_76 : decode cX8_hold 76 = .ok (.iinc 1 1, 3) := by decide +kernel
theorem dX8_hold_79 : decode cX8_hold 79 = .ok (.goto (-69), 3) := by decide +kernel
theorem dX8_hold_82 : decode cX8_hold 82 = .ok (.iconst 0, 1) := by decide +kernel
theorem dX8_hold_83 : decode cX8_hold 83 = .ok (.istore_n 1, 1) := by decide +kernel
theorem dX8_hold_84 : decode cX8_hold 84 = .ok (.iload_n 1, 1) := by decide +kernel
theorem dX8_hold_85 : decode cX8_hold 85 = .ok (.sipush 480, 3) := by decide +kernel
theorem dX8_hold_88 : decode cX8_hold 88 = .ok (.if_icmp .ge 21, 3) := by decide +kernel
theorem dX8_hold_91 : decode cX8_hold 91 = .ok (.aload_n 0, 1) := by decide +kernel
theorem dX8_hold_92 : decode cX8_hold 92 = .ok (.getfield 59, 3) := by decide +kernel
theorem dX8_hold_95 : decode cX8_hold 95 = .ok (.iload_n 1, 1) := by decide +kernel
theorem dX8_hold_96 : decode cX8_hold 96 = .ok (.aload_n 0, 1) := by decide +kernel
theorem dX8_hold_97 : decode cX8_hold 97 = .ok (.getfield 41, 3) := by decide +kernel
theorem dX8_hold_100 : decode cX8_hold 100 = .ok (.iload_n 1, 1) := by decide +kernel
theorem dX8_hold_101 : decode cX8_hold 101 = .ok (.iaload, 1) := by decide +kernel
theorem dX8_hold_102 : decode cX8_hold 102 = .ok (.iastore, 1) := by decide +kernel
theorem dX8_hold_103 : decode cX8_hold 103 = .ok (.iinc 1 1, 3) := by decide +kernel
theorem dX8_hold_106 : decode cX8_hold 106 = .ok (.goto (-22), 3) := by decide +kernel
theorem dX8_hold_109 : decode cX8_hold 109 = .ok (.return_, 1) := by decide +kernel
theorem dX8_back_0 : decode cX8_back 0 = .ok (.aload_n 0, 1) := by decide +kernel
theorem dX8_back_1 : decode cX8_back 1 = .ok (.aload_n 0, 1) := by decide +kernel
theorem dX8_back_2 : decode cX8_back 2 = .ok (.getfield 193, 3) := by decide +kernel
theorem dX8_back_5 : decode cX8_back 5 = .ok (.putfield 131, 3) := by decide +kernel
theorem dX8_back_8 : decode cX8_back 8 = .ok (.iconst 0, 1) := by decide +kernel
theorem dX8_back_9 : decode cX8_back 9 = .ok (.istore_n 1, 1) := by decide +kernel
theorem dX8_back_10 : decode cX8_back 10 = .ok (.iload_n 1, 1) := by decide +kernel
theorem dX8_back_11 : decode cX8_back 11 = .ok (.bipush 80, 2) := by decide +kernel
theorem dX8_back_13 : decode cX8_back 13 = .ok (.if_icmp .ge 69, 3) := by decide +kernel
theorem dX8_back_16 : decode cX8_back 16 = .ok (.aload_n 0, 1) := by decide +kernel
theorem dX8_back_17 : decode cX8_back 17 = .ok (.getfield 26, 3) := by decide +kernel
theorem dX8_back_20 : decode cX8_back 20 = .ok (.iload_n 1, 1) := by decide +kernel
theorem dX8_back_21 : decode cX8_back 21 = .ok (.aload_n 0, 1) := by decide +kernel
theorem dX8_back_22 : decode cX8_back 22 = .ok (.getfield 44, 3) := by decide +kernel
theorem dX8_back_25 : decode cX8_back 25 = .ok (.iload_n 1, 1) := by decide +kernel
theorem dX8_back_26 : decode cX8_back 26 = .ok (.iaload, 1) := by decide +kernel
theorem dX8_back_27 : decode cX8_back 27 = .ok (.iastore, 1) := by decide +kernel
theorem dX8_back_28 : decode cX8_back 28 = .ok (.aload_n 0, 1) := by decide +kernel
theorem dX8_back_29 : decode cX8_back 29 = .ok (.getfield 29, 3) := by decide +kernel
theorem dX8_back_32 : decode cX8_back 32 = .ok (.iload_n 1, 1) := by decide +kernel
theorem dX8_back_33 : decode cX8_back 33 = .ok (.aload_n 0, 1) := by decide +kernel
theorem dX8_back_34 : decode cX8_back 34 = .ok (.getfield 47, 3) := by decide +kernel
theorem dX8_back_37 : decode cX8_back 37 = .ok (.iload_n 1, 1) := by decide +kernel
theorem dX8_back_38 : decode cX8_back 38 = .ok (.iaload, 1) := by decide +kernel
theorem dX8_back_39 : decode cX8_back 39 = .ok (.iastore, 1) := by decide +kernel
theorem dX8_back_40 : decode cX8_back 40 = .ok (.aload_n 0, 1) := by decide +kernel
theorem dX8_back_41 : decode cX8_back 41 = .ok (.getfield 32, 3) := by decide +kernel
theorem dX8_back_44 : decode cX8_back 44 = .ok (.iload_n 1, 1) := by decide +kernel
theorem dX8_back_45 : decode cX8_back 45 = .ok (.aload_n 0, 1) := by decide +kernel
theorem dX8_back_46 : decode cX8_back 46 = .ok (.getfield 50, 3) := by decide +kernel
theorem dX8_back_49 : decode cX8_back 49 = .ok (.iload_n 1, 1) := by decide +kernel
theorem dX8_back_50 : decode cX8_back 50 = .ok (.iaload, 1) := by decide +kernel
theorem dX8_back_51 : decode cX8_back 51 = .ok (.iastore, 1) := by decide +kernel
theorem dX8_back_52 : decode cX8_back 52 = .ok (.aload_n 0, 1) := by decide +kernel
theorem dX8_back_53 : decode cX8_back 53 = .ok (.getfield 35, 3) := by decide +kernel
theorem dX8_back_56 : decode cX8_back 56 = .ok (.iload_n 1, 1) := by decide +kernel
theorem dX8_back_57 : decode cX8_back 57 = .ok (.aload_n 0, 1) := by decide +kernel
theorem dX8_back_58 : decode cX8_back 58 = .ok (.getfield 53, 3) := by decide +kernel
theorem dX8_back_61 : decode cX8_back 61 = .ok (.iload_n 1, 1) := by decide +kernel
theorem dX8_back_62 : decode cX8_back 62 = .ok (.iaload, 1) := by decide +kernel
theorem dX8_back_63 : decode cX8_back 63 = .ok (.iastore, 1) := by decide +kernel
theorem dX8_back_64 : decode cX8_back 64 = .ok (.aload_n 0, 1) := by decide +kernel
theorem dX8_back_65 : decode cX8_back 65 = .ok (.getfield 38, 3) := by decide +kernel
theorem dX8_back_68 : decode cX8_back 68 = .ok (.iload_n 1, 1) := by decide +kernel
theorem dX8_back_69 : decode cX8_back 69 = .ok (.aload_n 0, 1) := by decide +kernel
theorem dX8_back_70 : decode cX8_back 70 = .ok (.getfield 56, 3) := by decide +kernel
theorem dX8_back_73 : decode cX8_back 73 = .ok (.iload_n 1, 1) := by decide +kernel
theorem dX8_back_74 : decode cX8_back 74 = .ok (.iaload, 1) := by decide +kernel
theorem dX8_back_75 : decode cX8_back 75 = .ok (.iastore, 1) := by decide +kernel
theorem dX8_back_76 : decode cX8_back 76 = .ok (.iinc 1 1, 3) := by decide +kernel
theorem dX8_back_79 : decode cX8_back 79 = .ok (.goto (-69), 3) := by decide +kernel
theorem dX8_back_82 : decode cX8_back 82 = .ok (.iconst 0, 1) := by decide +kernel
theorem dX8_back_83 : decode cX8_back 83 = .ok (.istore_n 1, 1) := by decide +kernel
theorem dX8_back_84 : decode cX8_back 84 = .ok (.iload_n 1, 1) := by decide +kernel
theorem dX8_back_85 : decode cX8_back 85 = .ok (.sipush 480, 3) := by decide +kernel
theorem dX8_back_88 : decode cX8_back 88 = .ok (.if_icmp .ge 21, 3) := by decide +kernel
theorem dX8_back_91 : decode cX8_back 91 = .ok (.aload_n 0, 1) := by decide +kernel
theorem dX8_back_92 : decode cX8_back 92 = .ok (.getfield 41, 3) := by decide +kernel
theorem dX8_back_95 : decode cX8_back 95 = .ok (.iload_n 1, 1) := by decide +kernel
theorem dX8_back_96 : decode cX8_back 96 = .ok (.aload_n 0, 1) := by decide +kernel
theorem dX8_back_97 : decode cX8_back 97 = .ok (.getfield 59, 3) := by decide +kernel
theorem dX8_back_100 : decode cX8_back 100 = .ok (.iload_n 1, 1) := by decide +kernel
theorem dX8_back_101 : decode cX8_back 101 = .ok (.iaload, 1) := by decide +kernel
theorem dX8_back_102 : decode cX8_back 102 = .ok (.iastore, 1) := by decide +kernel
theorem dX8_back_103 : decode cX8_back 103 = .ok (.iinc 1 1, 3) := by decide +kernel
theorem dX8_back_106 : decode cX8_back 106 = .ok (.goto (-22), 3) := by decide +kernel
theorem dX8_back_109 : decode cX8_back 109 = .ok (.return_, 1) := by decide +kernel
set_option maxRecDepth 20000 in
theorem ggX8_wearOut_X8_firstWet : GoodIn wsX8_wearOut wsX8_firstWet := goodIn_r _ [5, 6, 7, 8, 9, 10, 4, 11, 12, 13, 14, 15, 16, 17, 18, 19, 20, 21, 22, 23, 24, 25, 26, 27, 28, 29, 30, 31, 32, 33, 34, 35, 36, 37, 38, 39, 46, 47, 48, 49, 50, 51, 52, 53, 54, 55, 56, 57, 58, 59, 60, 61, 62, 63, 64, 65, 66, 67, 68, 69, 70, 71, 72, 73, 74, 75, 76, 77, 78, 79, 80, 81, 82, 83, 84, 85, 86, 87] (by decide +kernel) (by decide +kernel)
set_option maxRecDepth 20000 in
theorem gX8_wearOut_X8_firstWet : GoodIn wsX8_wearOut (wsV RX8 184 RX8 yX8_firstWet wsX8_firstWet) := goodIn_app (goodIn_of _ (by decide +kernel)) ggX8_wearOut_X8_firstWet
set_option maxRecDepth 20000 in
theorem ggX8_wearOut_X8_passYear : GoodIn wsX8_wearOut wsX8_passYear := goodIn_r _ [43, 6, 7, 44, 16, 17, 45, 30, 31, 32, 4, 33, 34, 46, 47, 48, 49, 50, 51, 52, 53, 54, 55, 56, 57, 58, 59, 60, 61, 62, 63, 64, 65, 66, 67, 68, 69, 70, 71, 72, 73, 74, 75, 76, 77, 78, 79, 80, 81, 82, 83, 84, 85, 86, 87] (by decide +kernel) (by decide +kernel)
set_option maxRecDepth 20000 in
theorem gX8_wearOut_X8_passYear : GoodIn wsX8_wearOut (wsV RX8 190 RX8 yX8_passYear wsX8_passYear) := goodIn_app (goodIn_of _ (by decide +kernel)) ggX8_wearOut_X8_passYear
theorem dX8_wearOut_0 : decode cX8_wearOut 0 = .ok (.iconst 0, 1) := by decide +kernel
theorem dX8_wearOut_1 : decode cX8_wearOut 1 = .ok (.istore_n 1, 1) := by decide +kernel
theorem dX8_wearOut_2 : decode cX8_wearOut 2 = .ok (.iload_n 1, 1) := by decide +kernel
theorem dX8_wearOut_3 : decode cX8_wearOut 3 = .ok (.bipush 100, 2) := by decide +kernel
theorem dX8_wearOut_5 : decode cX8_wearOut 5 = .ok (.if_icmp .ge 25, 3) := by decide +kernel
theorem dX8_wearOut_8 : decode cX8_wearOut 8 = .ok (.aload_n 0, 1) := by decide +kernel
theorem dX8_wearOut_9 : decode cX8_wearOut 9 = .ok (.invokevirtual 184, 3) := by decide +kernel
theorem dX8_wearOut_12 : decode cX8_wearOut 12 = .ok (.bipush (-9), 2) := by decide +kernel
theorem dX8_wearOut_14 : decode cX8_wearOut 14 = .ok (.if_icmp .eq 5, 3) := by decide +kernel
theorem dX8_wearOut_17 : decode cX8_wearOut 17 = .ok (.iload_n 1, 1) := by decide +kernel
theorem dX8_wearOut_18 : decode cX8_wearOut 18 = .ok (.ireturn, 1) := by decide +kernel
theorem dX8_wearOut_19 : decode cX8_wearOut 19 = .ok (.aload_n 0, 1) := by decide +kernel
theorem dX8_wearOut_20 : decode cX8_wearOut 20 = .ok (.invokevirtual 190, 3) := by decide +kernel
theorem dX8_wearOut_23 : decode cX8_wearOut 23 = .ok (.pop, 1) := by decide +kernel
theorem dX8_wearOut_24 : decode cX8_wearOut 24 = .ok (.iinc 1 1, 3) := by decide +kernel
theorem dX8_wearOut_27 : decode cX8_wearOut 27 = .ok (.goto (-25), 3) := by decide +kernel
theorem dX8_wearOut_30 : decode cX8_wearOut 30 = .ok (.bipush (-9), 2) := by decide +kernel
theorem dX8_wearOut_32 : decode cX8_wearOut 32 = .ok (.ireturn, 1) := by decide +kernel
set_option maxRecDepth 20000 in
theorem ggX8_leaks_X8_hold : GoodIn wsX8_leaks wsX8_hold := goodIn_r _ [6, 7, 8, 9, 10, 11, 12, 13, 14, 15, 16, 17, 18, 19, 20, 70, 71, 72, 73, 74, 75, 76, 77, 78, 79, 80, 81, 82, 83, 84, 85, 86, 87, 88, 89, 90, 91, 92, 93, 94, 95, 96, 97, 98, 99, 100, 101, 102, 103, 104, 105, 106, 107, 108, 109, 110, 111] (by decide +kernel) (by decide +kernel)
set_option maxRecDepth 20000 in
theorem gX8_leaks_X8_hold : GoodIn wsX8_leaks (wsV RX8 196 RX8 yX8_hold wsX8_hold) := goodIn_app (goodIn_of _ (by decide +kernel)) ggX8_leaks_X8_hold
set_option maxRecDepth 20000 in
theorem ggX8_leaks_X8_wearOut : GoodIn wsX8_leaks wsX8_wearOut := goodIn_r _ [24, 25, 26, 27, 5, 28, 29, 30, 31, 32, 33, 34, 35, 36, 37, 38, 7, 20, 39, 40, 41, 42, 43, 44, 45, 46, 47, 48, 49, 50, 51, 52, 53, 54, 10, 55, 56, 57, 58, 59, 60, 61, 62, 63, 64, 65, 70, 71, 72, 73, 74, 75, 76, 77, 78, 79, 80, 81, 82, 83, 84, 85, 86, 87, 88, 89, 90, 91, 92, 93, 94, 95, 96, 97, 98, 99, 100, 101, 102, 103, 104, 105, 106, 107, 108, 109, 110, 111] (by decide +kernel) (by decide +kernel)
set_option maxRecDepth 20000 in
theorem gX8_leaks_X8_wearOut : GoodIn wsX8_leaks (wsV RX8 199 RX8 yX8_wearOut wsX8_wearOut) := goodIn_app (goodIn_of _ (by decide +kernel)) ggX8_leaks_X8_wearOut
set_option maxRecDepth 20000 in
theorem ggX8_leaks_X8_back : GoodIn wsX8_leaks wsX8_back := goodIn_r _ [69, 8, 7, 10, 9, 12, 11, 14, 13, 16, 15, 18, 17, 20, 19, 70, 71, 72, 73, 74, 75, 76, 77, 78, 79, 80, 81, 82, 83, 84, 85, 86, 87, 88, 89, 90, 91, 92, 93, 94, 95, 96, 97, 98, 99, 100, 101, 102, 103, 104, 105, 106, 107, 108, 109, 110, 111] (by decide +kernel) (by decide +kernel)
set_option maxRecDepth 20000 in
theorem gX8_leaks_X8_back : GoodIn wsX8_leaks (wsV RX8 202 RX8 yX8_back wsX8_back) := goodIn_app (goodIn_of _ (by decide +kernel)) ggX8_leaks_X8_back
theorem dX8_leaks_0 : decode cX8_leaks 0 = .ok (.aload_n 0, 1) := by decide +kernel
theorem dX8_leaks_1 : decode cX8_leaks 1 = .ok (.iconst 0, 1) := by decide +kernel
theorem dX8_leaks_2 : decode cX8_leaks 2 = .ok (.putfield 120, 3) := by decide +kernel
theorem dX8_leaks_5 : decode cX8_leaks 5 = .ok (.aload_n 0, 1) := by decide +kernel
theorem dX8_leaks_6 : decode cX8_leaks 6 = .ok (.invokevirtual 196, 3) := by decide +kernel
theorem dX8_leaks_9 : decode cX8_leaks 9 = .ok (.aload_n 0, 1) := by decide +kernel
theorem dX8_leaks_10 : decode cX8_leaks 10 = .ok (.invokevirtual 199, 3) := by decide +kernel
theorem dX8_leaks_13 : decode cX8_leaks 13 = .ok (.istore_n 1, 1) := by decide +kernel
theorem dX8_leaks_14 : decode cX8_leaks 14 = .ok (.aload_n 0, 1) := by decide +kernel
theorem dX8_leaks_15 : decode cX8_leaks 15 = .ok (.invokevirtual 202, 3) := by decide +kernel
theorem dX8_leaks_18 : decode cX8_leaks 18 = .ok (.iload_n 1, 1) := by decide +kernel
theorem dX8_leaks_19 : decode cX8_leaks 19 = .ok (.ireturn, 1) := by decide +kernel
set_option maxRecDepth 20000 in
theorem ggX8_leakAt_X8_hold : GoodIn wsX8_leakAt wsX8_hold := goodIn_r _ [6, 7, 8, 9, 10, 11, 12, 13, 14, 15, 16, 17, 18, 19, 20, 70, 71, 72, 73, 74, 75, 76, 77, 78, 79, 80, 81, 82, 83, 84, 85, 86, 87, 88, 89, 90, 91, 92, 93, 94, 95, 96, 97, 98, 99, 100, 101, 102, 103, 104, 105, 106, 107, 108, 109, 110, 111] (by decide +kernel) (by decide +kernel)
set_option maxRecDepth 20000 in
theorem gX8_leakAt_X8_hold : GoodIn wsX8_leakAt (wsV RX8 196 RX8 yX8_hold wsX8_hold) := goodIn_app (goodIn_of _ (by decide +kernel)) ggX8_leakAt_X8_hold
set_option maxRecDepth 20000 in
theorem ggX8_leakAt_X8_wearOut : GoodIn wsX8_leakAt wsX8_wearOut := goodIn_r _ [24, 25, 26, 27, 5, 28, 29, 30, 31, 32, 33, 34, 35, 36, 37, 38, 7, 20, 39, 40, 41, 42, 43, 44, 45, 46, 47, 48, 49, 50, 51, 52, 53, 54, 10, 55, 56, 57, 58, 59, 60, 61, 62, 63, 64, 65, 70, 71, 72, 73, 74, 75, 76, 77, 78, 79, 80, 81, 82, 83, 84, 85, 86, 87, 88, 89, 90, 91, 92, 93, 94, 95, 96, 97, 98, 99, 100, 101, 102, 103, 104, 105, 106, 107, 108, 109, 110, 111] (by decide +kernel) (by decide +kernel)
set_option maxRecDepth 20000 in
theorem gX8_leakAt_X8_wearOut : GoodIn wsX8_leakAt (wsV RX8 199 RX8 yX8_wearOut wsX8_wearOut) := goodIn_app (goodIn_of _ (by decide +kernel)) ggX8_leakAt_X8_wearOut
set_option maxRecDepth 20000 in
theorem ggX8_leakAt_X8_firstWet : GoodIn wsX8_leakAt wsX8_firstWet := goodIn_r _ [28, 29, 30, 31, 32, 33, 5, 34, 35, 36, 37, 38, 7, 20, 39, 40, 41, 42, 43, 44, 45, 46, 47, 48, 49, 50, 51, 52, 53, 54, 10, 55, 56, 57, 58, 59, 70, 71, 72, 73, 74, 75, 76, 77, 78, 79, 80, 81, 82, 83, 84, 85, 86, 87, 88, 89, 90, 91, 92, 93, 94, 95, 96, 97, 98, 99, 100, 101, 102, 103, 104, 105, 106, 107, 108, 109, 110, 111] (by decide +kernel) (by decide +kernel)
set_option maxRecDepth 20000 in
theorem gX8_leakAt_X8_firstWet : GoodIn wsX8_leakAt (wsV RX8 184 RX8 yX8_firstWet wsX8_firstWet) := goodIn_app (goodIn_of _ (by decide +kernel)) ggX8_leakAt_X8_firstWet
set_option maxRecDepth 20000 in
theorem ggX8_leakAt_X8_back : GoodIn wsX8_leakAt wsX8_back := goodIn_r _ [69, 8, 7, 10, 9, 12, 11, 14, 13, 16, 15, 18, 17, 20, 19, 70, 71, 72, 73, 74, 75, 76, 77, 78, 79, 80, 81, 82, 83, 84, 85, 86, 87, 88, 89, 90, 91, 92, 93, 94, 95, 96, 97, 98, 99, 100, 101, 102, 103, 104, 105, 106, 107, 108, 109, 110, 111] (by decide +kernel) (by decide +kernel)
set_option maxRecDepth 20000 in
theorem gX8_leakAt_X8_back : GoodIn wsX8_leakAt (wsV RX8 202 RX8 yX8_back wsX8_back) := goodIn_app (goodIn_of _ (by decide +kernel)) ggX8_leakAt_X8_back
theorem dX8_leakAt_0 : decode cX8_leakAt 0 = .ok (.aload_n 0, 1) := by decide +kernel
theorem dX8_leakAt_1 : decode cX8_leakAt 1 = .ok (.iconst 0, 1) := by decide +kernel
theorem dX8_leakAt_2 : decode cX8_leakAt 2 = .ok (.putfield 120, 3) := by decide +kernel
theorem dX8_leakAt_5 : decode cX8_leakAt 5 = .ok (.aload_n 0, 1) := by decide +kernel
theorem dX8_leakAt_6 : decode cX8_leakAt 6 = .ok (.invokevirtual 196, 3) := by decide +kernel
theorem dX8_leakAt_9 : decode cX8_leakAt 9 = .ok (.aload_n 0, 1) := by decide +kernel
theorem dX8_leakAt_10 : decode cX8_leakAt 10 = .ok (.invokevirtual 199, 3) := by decide +kernel
theorem dX8_leakAt_13 : decode cX8_leakAt 13 = .ok (.bipush (-9), 2) := by decide +kernel
theorem dX8_leakAt_15 : decode cX8_leakAt 15 = .ok (.if_icmp .ne 8, 3) := by decide +kernel
theorem dX8_leakAt_18 : decode cX8_leakAt 18 = .ok (.bipush (-9), 2) := by decide +kernel
theorem dX8_leakAt_20 : decode cX8_leakAt 20 = .ok (.goto 7, 3) := by decide +kernel
theorem dX8_leakAt_23 : decode cX8_leakAt 23 = .ok (.aload_n 0, 1) := by decide +kernel
theorem dX8_leakAt_24 : decode cX8_leakAt 24 = .ok (.invokevirtual 184, 3) := by decide +kernel
theorem dX8_leakAt_27 : decode cX8_leakAt 27 = .ok (.istore_n 1, 1) := by decide +kernel
theorem dX8_leakAt_28 : decode cX8_leakAt 28 = .ok (.aload_n 0, 1) := by decide +kernel
theorem dX8_leakAt_29 : decode cX8_leakAt 29 = .ok (.invokevirtual 202, 3) := by decide +kernel
theorem dX8_leakAt_32 : decode cX8_leakAt 32 = .ok (.iload_n 1, 1) := by decide +kernel
theorem dX8_leakAt_33 : decode cX8_leakAt 33 = .ok (.ireturn, 1) := by decide +kernel
set_option maxRecDepth 20000 in
theorem ggX8_weightOf_X8_leftOf : GoodIn wsX8_weightOf wsX8_leftOf := goodIn_r _ [7, 8, 9, 10, 11, 12, 13, 14, 15, 16, 17, 18, 19, 20, 21, 22, 23, 24, 25, 26, 27, 28, 29, 30, 31, 32, 33, 34, 35, 36, 37, 38, 39, 40, 41, 42, 43, 44, 45, 46, 47, 48, 49, 50] (by decide +kernel) (by decide +kernel)
set_option maxRecDepth 20000 in
theorem gX8_weightOf_X8_leftOf : GoodIn wsX8_weightOf (wsV RX8 156 RX8 yX8_leftOf wsX8_leftOf) := goodIn_app (goodIn_of _ (by decide +kernel)) ggX8_weightOf_X8_leftOf
theorem dX8_weightOf_0 : decode cX8_weightOf 0 = .ok (.iconst 0, 1) := by decide +kernel
theorem dX8_weightOf_1 : decode cX8_weightOf 1 = .ok (.istore_n 2, 1) := by decide +kernel
theorem dX8_weightOf_2 : decode cX8_weightOf 2 = .ok (.iconst 0, 1) := by decide +kernel
theorem dX8_weightOf_3 : decode cX8_weightOf 3 = .ok (.istore_n 3, 1) := by decide +kernel
theorem dX8_weightOf_4 : decode cX8_weightOf 4 = .ok (.iload_n 3, 1) := by decide +kernel
theorem dX8_weightOf_5 : decode cX8_weightOf 5 = .ok (.aload_n 0, 1) := by decide +kernel
theorem dX8_weightOf_6 : decode cX8_weightOf 6 = .ok (.getfield 131, 3) := by decide +kernel
theorem dX8_weightOf_9 : decode cX8_weightOf 9 = .ok (.if_icmp .ge 31, 3) := by decide +kernel
theorem dX8_weightOf_12 : decode cX8_weightOf 12 = .ok (.iload_n 2, 1) := by decide +kernel
theorem dX8_weightOf_13 : decode cX8_weightOf 13 = .ok (.aload_n 0, 1) := by decide +kernel
theorem dX8_weightOf_14 : decode cX8_weightOf 14 = .ok (.getfield 26, 3) := by decide +kernel
theorem dX8_weightOf_17 : decode cX8_weightOf 17 = .ok (.iload_n 3, 1) := by decide +kernel
theorem dX8_weightOf_18 : decode cX8_weightOf 18 = .ok (.iaload, 1) := by decide +kernel
theorem dX8_weightOf_19 : decode cX8_weightOf 19 = .ok (.iload_n 1, 1) := by decide +kernel
theorem dX8_weightOf_20 : decode cX8_weightOf 20 = .ok (.if_icmp .ne 11, 3) := by decide +kernel
theorem dX8_weightOf_23 : decode cX8_weightOf 23 = .ok (.aload_n 0, 1) := by decide +kernel
theorem dX8_weightOf_24 : decode cX8_weightOf 24 = .ok (.iload_n 3, 1) := by decide +kernel
theorem dX8_weightOf_25 : decode cX8_weightOf 25 = .ok (.invokevirtual 156, 3) := by decide +kernel
theorem dX8_weightOf_28 : decode cX8_weightOf 28 = .ok (.goto 4, 3) := by decide +kernel
theorem dX8_weightOf_31 : decode cX8_weightOf 31 = .ok (.iconst 0, 1) := by decide +kernel
theorem dX8_weightOf_32 : decode cX8_weightOf 32 = .ok (.iadd, 1) := by decide +kernel
theorem dX8_weightOf_33 : decode cX8_weightOf 33 = .ok (.istore_n 2, 1) := by decide +kernel
theorem dX8_weightOf_34 : decode cX8_weightOf 34 = .ok (.iinc 3 1, 3) := by decide +kernel
theorem dX8_weightOf_37 : decode cX8_weightOf 37 = .ok (.goto (-33), 3) := by decide +kernel
theorem dX8_weightOf_40 : decode cX8_weightOf 40 = .ok (.iload_n 2, 1) := by decide +kernel
theorem dX8_weightOf_41 : decode cX8_weightOf 41 = .ok (.ireturn, 1) := by decide +kernel
set_option maxRecDepth 20000 in
theorem ggX8_weight_X8_noColumn : GoodIn wsX8_weight wsX8_noColumn := goodIn_r _ [6, 7, 8, 9, 5, 10, 22, 23, 24, 25, 26, 27, 28, 29, 30, 31, 32, 33, 34, 35, 36, 37, 38, 39, 40, 41, 42, 43, 44, 45, 46, 47, 48, 49, 50, 51, 52, 53, 54, 55, 56, 57, 58, 59, 60, 61, 62, 63] (by decide +kernel) (by decide +kernel)
set_option maxRecDepth 20000 in
theorem gX8_weight_X8_noColumn : GoodIn wsX8_weight (wsV RX8 127 RX8 yX8_noColumn wsX8_noColumn) := goodIn_app (goodIn_of _ (by decide +kernel)) ggX8_weight_X8_noColumn
set_option maxRecDepth 20000 in
theorem ggX8_weight_X8_weightOf : GoodIn wsX8_weight wsX8_weightOf := goodIn_r _ [14, 15, 16, 17, 18, 19, 5, 20, 21, 22, 23, 24, 25, 26, 27, 28, 29, 30, 31, 32, 33, 34, 35, 36, 37, 38, 39, 40, 41, 42, 43, 44, 45, 46, 47, 48, 49, 50, 51, 52, 53, 54, 55, 56, 57, 58, 59, 60, 61, 62, 63] (by decide +kernel) (by decide +kernel)
set_option maxRecDepth 20000 in
theorem gX8_weight_X8_weightOf : GoodIn wsX8_weight (wsV RX8 205 RX8 yX8_weightOf wsX8_weightOf) := goodIn_app (goodIn_of _ (by decide +kernel)) ggX8_weight_X8_weightOf
theorem dX8_weight_0 : decode cX8_weight 0 = .ok (.aload_n 0, 1) := by decide +kernel
theorem dX8_weight_1 : decode cX8_weight 1 = .ok (.iconst 0, 1) := by decide +kernel
theorem dX8_weight_2 : decode cX8_weight 2 = .ok (.putfield 120, 3) := by decide +kernel
theorem dX8_weight_5 : decode cX8_weight 5 = .ok (.aload_n 0, 1) := by decide +kernel
theorem dX8_weight_6 : decode cX8_weight 6 = .ok (.iload_n 1, 1) := by decide +kernel
theorem dX8_weight_7 : decode cX8_weight 7 = .ok (.invokevirtual 127, 3) := by decide +kernel
theorem dX8_weight_10 : decode cX8_weight 10 = .ok (.ifCond .eq 7, 3) := by decide +kernel
theorem dX8_weight_13 : decode cX8_weight 13 = .ok (.iconst (-1), 1) := by decide +kernel
theorem dX8_weight_14 : decode cX8_weight 14 = .ok (.goto 8, 3) := by decide +kernel
theorem dX8_weight_17 : decode cX8_weight 17 = .ok (.aload_n 0, 1) := by decide +kernel
theorem dX8_weight_18 : decode cX8_weight 18 = .ok (.iload_n 1, 1) := by decide +kernel
theorem dX8_weight_19 : decode cX8_weight 19 = .ok (.invokevirtual 205, 3) := by decide +kernel
theorem dX8_weight_22 : decode cX8_weight 22 = .ok (.ireturn, 1) := by decide +kernel
set_option maxRecDepth 20000 in
theorem ggX8_heavy_X8_noColumn : GoodIn wsX8_heavy wsX8_noColumn := goodIn_r _ [7, 8, 9, 10, 6, 11, 46, 47, 48, 49, 50, 51, 52, 53, 54, 55, 56, 57, 58, 59, 60, 61, 62, 63, 64, 65, 66, 67, 68, 69, 70, 71, 72, 73, 74, 75, 76, 77, 78, 79, 80, 81, 82, 83, 84, 85, 86, 87] (by decide +kernel) (by decide +kernel)
set_option maxRecDepth 20000 in
theorem gX8_heavy_X8_noColumn : GoodIn wsX8_heavy (wsV RX8 127 RX8 yX8_noColumn wsX8_noColumn) := goodIn_app (goodIn_of _ (by decide +kernel)) ggX8_heavy_X8_noColumn
set_option maxRecDepth 20000 in
theorem ggX8_heavy_X8_in : GoodIn wsX8_heavy wsX8_in := goodIn_r _ [11] (by decide +kernel) (by decide +kernel)
set_option maxRecDepth 20000 in
theorem gX8_heavy_X8_in : GoodIn wsX8_heavy (va_wsS RX8 123 yX8_in wsX8_in) := goodIn_app (goodIn_of _ (by decide +kernel)) ggX8_heavy_X8_in
set_option maxRecDepth 20000 in
theorem ggX8_heavy_X8_hold : GoodIn wsX8_heavy wsX8_hold := goodIn_r _ [15, 16, 17, 18, 19, 20, 21, 22, 23, 24, 25, 26, 27, 28, 29, 46, 47, 48, 49, 50, 51, 52, 53, 54, 55, 56, 57, 58, 59, 60, 61, 62, 63, 64, 65, 66, 67, 68, 69, 70, 71, 72, 73, 74, 75, 76, 77, 78, 79, 80, 81, 82, 83, 84, 85, 86, 87] (by decide +kernel) (by decide +kernel)
set_option maxRecDepth 20000 in
theorem gX8_heavy_X8_hold : GoodIn wsX8_heavy (wsV RX8 196 RX8 yX8_hold wsX8_hold) := goodIn_app (goodIn_of _ (by decide +kernel)) ggX8_heavy_X8_hold
set_option maxRecDepth 20000 in
theorem ggX8_heavy_X8_weightOf : GoodIn wsX8_heavy wsX8_weightOf := goodIn_r _ [33, 16, 19, 34, 35, 36, 6, 37, 29, 46, 47, 48, 49, 50, 51, 52, 53, 54, 55, 56, 57, 58, 59, 60, 61, 62, 63, 64, 65, 66, 67, 68, 69, 70, 71, 72, 73, 74, 75, 76, 77, 78, 79, 80, 81, 82, 83, 84, 85, 86, 87] (by decide +kernel) (by decide +kernel)
set_option maxRecDepth 20000 in
theorem gX8_heavy_X8_weightOf : GoodIn wsX8_heavy (wsV RX8 205 RX8 yX8_weightOf wsX8_weightOf) := goodIn_app (goodIn_of _ (by decide +kernel)) ggX8_heavy_X8_weightOf
set_option maxRecDepth 20000 in
theorem ggX8_heavy_X8_takeOne : GoodIn wsX8_heavy wsX8_takeOne := goodIn_r _ [41, 16, 19, 29, 34, 35, 36, 6, 37, 46, 47, 48, 49, 50, 51, 52, 53, 54, 55, 56, 57, 58, 59, 60, 61, 62, 63, 64, 65, 66, 67, 68, 69, 70, 71, 72, 73, 74, 75, 76, 77, 78, 79, 80, 81, 82, 83, 84, 85, 86, 87] (by decide +kernel) (by decide +kernel)
set_option maxRecDepth 20000 in
theorem gX8_heavy_X8_takeOne : GoodIn wsX8_heavy (wsV RX8 160 RX8 yX8_takeOne wsX8_takeOne) := goodIn_app (goodIn_of _ (by decide +kernel)) ggX8_heavy_X8_takeOne
set_option maxRecDepth 20000 in
theorem ggX8_heavy_X8_back : GoodIn wsX8_heavy wsX8_back := goodIn_r _ [45, 17, 16, 19, 18, 21, 20, 23, 22, 25, 24, 27, 26, 29, 28, 46, 47, 48, 49, 50, 51, 52, 53, 54, 55, 56, 57, 58, 59, 60, 61, 62, 63, 64, 65, 66, 67, 68, 69, 70, 71, 72, 73, 74, 75, 76, 77, 78, 79, 80, 81, 82, 83, 84, 85, 86, 87] (by decide +kernel) (by decide +kernel)
set_option maxRecDepth 20000 in
theorem gX8_heavy_X8_back : GoodIn wsX8_heavy (wsV RX8 202 RX8 yX8_back wsX8_back) := goodIn_app (goodIn_of _ (by decide +kernel)) ggX8_heavy_X8_back
theorem dX8_heavy_0 : decode cX8_heavy 0 = .ok (.aload_n 0, 1) := by decide +kernel
theorem dX8_heavy_1 : decode cX8_heavy 1 = .ok (.iconst 0, 1) := by decide +kernel
theorem dX8_heavy_2 : decode cX8_heavy 2 = .ok (.putfield 120, 3) := by decide +kernel
theorem dX8_heavy_5 : decode cX8_heavy 5 = .ok (.aload_n 0, 1) := by decide +kernel
theorem dX8_heavy_6 : decode cX8_heavy 6 = .ok (.iload_n 1, 1) := by decide +kernel
theorem dX8_heavy_7 : decode cX8_heavy 7 = .ok (.invokevirtual 127, 3) := by decide +kernel
theorem dX8_heavy_10 : decode cX8_heavy 10 = .ok (.ifCond .eq 5, 3) := by decide +kernel
theorem dX8_heavy_13 : decode cX8_heavy 13 = .ok (.iconst (-1), 1) := by decide +kernel
theorem dX8_heavy_14 : decode cX8_heavy 14 = .ok (.ireturn, 1) := by decide +kernel
theorem dX8_heavy_15 : decode cX8_heavy 15 = .ok (.iload_n 2, 1) := by decide +kernel
theorem dX8_heavy_16 : decode cX8_heavy 16 = .ok (.i2l, 1) := by decide +kernel
theorem dX8_heavy_17 : decode cX8_heavy 17 = .ok (.lconst 0, 1) := by decide +kernel
theorem dX8_heavy_18 : decode cX8_heavy 18 = .ok (.ldc2_w 208, 3) := by decide +kernel
theorem dX8_heavy_21 : decode cX8_heavy 21 = .ok (.invokestatic 123, 3) := by decide +kernel
theorem dX8_heavy_24 : decode cX8_heavy 24 = .ok (.ifCond .ne 6, 3) := by decide +kernel
theorem dX8_heavy_27 : decode cX8_heavy 27 = .ok (.bipush (-2), 2) := by decide +kernel
theorem dX8_heavy_29 : decode cX8_heavy 29 = .ok (.ireturn, 1) := by decide +kernel
theorem dX8_heavy_30 : decode cX8_heavy 30 = .ok (.aload_n 0, 1) := by decide +kernel
theorem dX8_heavy_31 : decode cX8_heavy 31 = .ok (.invokevirtual 196, 3) := by decide +kernel
theorem dX8_heavy_34 : decode cX8_heavy 34 = .ok (.iconst 0, 1) := by decide +kernel
theorem dX8_heavy_35 : decode cX8_heavy 35 = .ok (.istore_n 3, 1) := by decide +kernel
theorem dX8_heavy_36 : decode cX8_heavy 36 = .ok (.aload_n 0, 1) := by decide +kernel
theorem dX8_heavy_37 : decode cX8_heavy 37 = .ok (.iload_n 1, 1) := by decide +kernel
theorem dX8_heavy_38 : decode cX8_heavy 38 = .ok (.invokevirtual 205, 3) := by decide +kernel
theorem dX8_heavy_41 : decode cX8_heavy 41 = .ok (.iload_n 2, 1) := by decide +kernel
theorem dX8_heavy_42 : decode cX8_heavy 42 = .ok (.if_icmp .le 15, 3) := by decide +kernel
theorem dX8_heavy_45 : decode cX8_heavy 45 = .ok (.aload_n 0, 1) := by decide +kernel
theorem dX8_heavy_46 : decode cX8_heavy 46 = .ok (.iload_n 1, 1) := by decide +kernel
theorem dX8_heavy_47 : decode cX8_heavy 47 = .ok (.invokevirtual 160, 3) := by decide +kernel
theorem dX8_heavy_50 : decode cX8_heavy 50 = .ok (.pop, 1) := by decide +kernel
theorem dX8_heavy_51 : decode cX8_heavy 51 = .ok (.iinc 3 1, 3) := by decide +kernel
theorem dX8_heavy_54 : decode cX8_heavy 54 = .ok (.goto (-18), 3) := by decide +kernel
theorem dX8_heavy_57 : decode cX8_heavy 57 = .ok (.aload_n 0, 1) := by decide +kernel
theorem dX8_heavy_58 : decode cX8_heavy 58 = .ok (.invokevirtual 202, 3) := by decide +kernel
theorem dX8_heavy_61 : decode cX8_heavy 61 = .ok (.iload_n 3, 1) := by decide +kernel
theorem dX8_heavy_62 : decode cX8_heavy 62 = .ok (.ireturn, 1) := by decide +kernel
set_option maxRecDepth 20000 in
theorem ggX8_isProof_X8_put : GoodIn wsX8_isProof wsX8_put := goodIn_r _ [8, 9, 1, 10, 11, 12, 13, 14, 3, 44, 45, 46, 47, 48, 49, 50, 51, 52, 53, 54, 55, 56, 57, 58, 59, 60, 61, 62, 63, 64, 65, 66, 67, 68, 69, 70, 71, 72, 73, 74, 75, 76, 77, 78, 79, 80, 81, 82, 83, 84, 85] (by decide +kernel) (by decide +kernel)
set_option maxRecDepth 20000 in
theorem gX8_isProof_X8_put : GoodIn wsX8_isProof (wsV RX8 152 RX8 yX8_put wsX8_put) := goodIn_app (goodIn_of _ (by decide +kernel)) ggX8_isProof_X8_put
set_option maxRecDepth 20000 in
theorem ggX8_isProof_X8_run : GoodIn wsX8_isProof wsX8_run := goodIn_r _ [18, 19, 20, 21, 3, 1, 14, 22, 23, 24, 7, 25, 26, 27, 28, 29, 30, 31, 32, 33, 34, 35, 36, 37, 38, 9, 39, 40, 41, 42, 43, 2, 44, 45, 46, 47, 48, 49, 50, 51, 52, 53, 54, 55, 56, 57, 58, 59, 60, 61, 62, 63, 64, 65, 66, 67, 68, 69, 70, 71, 72, 73, 74, 75, 76, 77, 78, 79, 80, 81, 82, 83, 84, 85] (by decide +kernel) (by decide +kernel)
set_option maxRecDepth 20000 in
theorem gX8_isProof_X8_run : GoodIn wsX8_isProof (wsV RX8 180 RX8 yX8_run wsX8_run) := goodIn_app (goodIn_of _ (by decide +kernel)) ggX8_isProof_X8_run
theorem dX8_isProof_0 : decode cX8_isProof 0 = .ok (.aload_n 0, 1) := by decide +kernel
theorem dX8_isProof_1 : decode cX8_isProof 1 = .ok (.getfield 131, 3) := by decide +kernel
theorem dX8_isProof_4 : decode cX8_isProof 4 = .ok (.istore 4, 2) := by decide +kernel
theorem dX8_isProof_6 : decode cX8_isProof 6 = .ok (.iconst 1, 1) := by decide +kernel
theorem dX8_isProof_7 : decode cX8_isProof 7 = .ok (.istore 5, 2) := by decide +kernel
theorem dX8_isProof_9 : decode cX8_isProof 9 = .ok (.iconst 0, 1) := by decide +kernel
theorem dX8_isProof_10 : decode cX8_isProof 10 = .ok (.istore 6, 2) := by decide +kernel
theorem dX8_isProof_12 : decode cX8_isProof 12 = .ok (.iload 6, 2) := by decide +kernel
theorem dX8_isProof_14 : decode cX8_isProof 14 = .ok (.aload_n 0, 1) := by decide +kernel
theorem dX8_isProof_15 : decode cX8_isProof 15 = .ok (.getfield 13, 3) := by decide +kernel
theorem dX8_isProof_18 : decode cX8_isProof 18 = .ok (.if_icmp .ge 56, 3) := by decide +kernel
theorem dX8_isProof_21 : decode cX8_isProof 21 = .ok (.iload_n 3, 1) := by decide +kernel
theorem dX8_isProof_22 : decode cX8_isProof 22 = .ok (.iload 6, 2) := by decide +kernel
theorem dX8_isProof_24 : decode cX8_isProof 24 = .ok (.ishr, 1) := by decide +kernel
theorem dX8_isProof_25 : decode cX8_isProof 25 = .ok (.iconst 1, 1) := by decide +kernel
theorem dX8_isProof_26 : decode cX8_isProof 26 = .ok (.iand, 1) := by decide +kernel
theorem dX8_isProof_27 : decode cX8_isProof 27 = .ok (.iconst 1, 1) := by decide +kernel
theorem dX8_isProof_28 : decode cX8_isProof 28 = .ok (.if_icmp .ne 40, 3) := by decide +kernel
theorem dX8_isProof_31 : decode cX8_isProof 31 = .ok (.iload 5, 2) := by decide +kernel
theorem dX8_isProof_33 : decode cX8_isProof 33 = .ok (.ifCond .eq 22, 3) := by decide +kernel
theorem dX8_isProof_36 : decode cX8_isProof 36 = .ok (.aload_n 0, 1) := by decide +kernel
theorem dX8_isProof_37 : decode cX8_isProof 37 = .ok (.getfield 19, 3) := by decide +kernel
theorem dX8_isProof_40 : decode cX8_isProof 40 = .ok (.bipush 6, 2) := by decide +kernel
theorem dX8_isProof_42 : decode cX8_isProof 42 = .ok (.iload_n 1, 1) := by decide +kernel
theorem dX8_isProof_43 : decode cX8_isProof 43 = .ok (.imul, 1) := by decide +kernel
theorem dX8_isProof_44 : decode cX8_isProof 44 = .ok (.iload 6, 2) := by decide +kernel
theorem dX8_isProof_46 : decode cX8_isProof 46 = .ok (.iadd, 1) := by decide +kernel
theorem dX8_isProof_47 : decode cX8_isProof 47 = .ok (.iaload, 1) := by decide +kernel
theorem dX8_isProof_48 : decode cX8_isProof 48 = .ok (.ifCond .ne 7, 3) := by decide +kernel
theorem dX8_isProof_51 : decode cX8_isProof 51 = .ok (.iconst 1, 1) := by decide +kernel
theorem dX8_isProof_52 : decode cX8_isProof 52 = .ok (.goto 4, 3) := by decide +kernel
theorem dX8_isProof_55 : decode cX8_isProof 55 = .ok (.iconst 0, 1) := by decide +kernel
theorem dX8_isProof_56 : decode cX8_isProof 56 = .ok (.istore 5, 2) := by decide +kernel
theorem dX8_isProof_58 : decode cX8_isProof 58 = .ok (.aload_n 0, 1) := by decide +kernel
theorem dX8_isProof_59 : decode cX8_isProof 59 = .ok (.iload_n 1, 1) := by decide +kernel
theorem dX8_isProof_60 : decode cX8_isProof 60 = .ok (.iload 6, 2) := by decide +kernel
theorem dX8_isProof_62 : decode cX8_isProof 62 = .ok (.iload_n 2, 1) := by decide +kernel
theorem dX8_isProof_63 : decode cX8_isProof 63 = .ok (.iconst 0, 1) := by decide +kernel
theorem dX8_isProof_64 : decode cX8_isProof 64 = .ok (.iconst 1, 1) := by decide +kernel
theorem dX8_isProof_65 : decode cX8_isProof 65 = .ok (.invokevirtual 152, 3) := by decide +kernel
theorem dX8_isProof_68 : decode cX8_isProof 68 = .ok (.iinc 6 1, 3) := by decide +kernel
theorem dX8_isProof_71 : decode cX8_isProof 71 = .ok (.goto (-59), 3) := by decide +kernel
theorem dX8_isProof_74 : decode cX8_isProof 74 = .ok (.iconst 0, 1) := by decide +kernel
theorem dX8_isProof_75 : decode cX8_isProof 75 = .ok (.istore 6, 2) := by decide +kernel
theorem dX8_isProof_77 : decode cX8_isProof 77 = .ok (.iload 6, 2) := by decide +kernel
theorem dX8_isProof_79 : decode cX8_isProof 79 = .ok (.aload_n 0, 1) := by decide +kernel
theorem dX8_isProof_80 : decode cX8_isProof 80 = .ok (.getfield 13, 3) := by decide +kernel
theorem dX8_isProof_83 : decode cX8_isProof 83 = .ok (.if_icmp .ge 46, 3) := by decide +kernel
theorem dX8_isProof_86 : decode cX8_isProof 86 = .ok (.iload 5, 2) := by decide +kernel
theorem dX8_isProof_88 : decode cX8_isProof 88 = .ok (.ifCond .eq 41, 3) := by decide +kernel
theorem dX8_isProof_91 : decode cX8_isProof 91 = .ok (.aload_n 0, 1) := by decide +kernel
theorem dX8_isProof_92 : decode cX8_isProof 92 = .ok (.iload_n 1, 1) := by decide +kernel
theorem dX8_isProof_93 : decode cX8_isProof 93 = .ok (.iload 6, 2) := by decide +kernel
theorem dX8_isProof_95 : decode cX8_isProof 95 = .ok (.invokevirtual 180, 3) := by decide +kernel
theorem dX8_isProof_98 : decode cX8_isProof 98 = .ok (.istore 7, 2) := by decide +kernel
theorem dX8_isProof_100 : decode cX8_isProof 100 = .ok (.iload 7, 2) := by decide +kernel
theorem dX8_isProof_102 : decode cX8_isProof 102 = .ok (.bipush 100, 2) := by decide +kernel
theorem dX8_isProof_104 : decode cX8_isProof 104 = .ok (.if_icmp .eq 12, 3) := by decide +kernel
theorem dX8_isProof_107 : decode cX8_isProof 107 = .ok (.iload 7, 2) := by decide +kernel
theorem dX8_isProof_109 : decode cX8_isProof 109 = .ok (.bipush 10, 2) := by decide +kernel
theorem dX8_isProof_111 : decode cX8_isProof 111 = .ok (.idiv, 1) := by decide +kernel
theorem dX8_isProof_112 : decode cX8_isProof 112 = .ok (.iload_n 1, 1) := by decide +kernel
theorem dX8_isProof_113 : decode cX8_isProof 113 = .ok (.if_icmp .eq 7, 3) := by decide +kernel
theorem dX8_isProof_116 : decode cX8_isProof 116 = .ok (.iconst 1, 1) := by decide +kernel
theorem dX8_isProof_117 : decode cX8_isProof 117 = .ok (.goto 4, 3) := by decide +kernel
theorem dX8_isProof_120 : decode cX8_isProof 120 = .ok (.iconst 0, 1) := by decide +kernel
theorem dX8_isProof_121 : decode cX8_isProof 121 = .ok (.istore 5, 2) := by decide +kernel
theorem dX8_isProof_123 : decode cX8_isProof 123 = .ok (.iinc 6 1, 3) := by decide +kernel
theorem dX8_isProof_126 : decode cX8_isProof 126 = .ok (.goto (-49), 3) := by decide +kernel
theorem dX8_isProof_129 : decode cX8_isProof 129 = .ok (.aload_n 0, 1) := by decide +kernel
theorem dX8_isProof_130 : decode cX8_isProof 130 = .ok (.iload 4, 2) := by decide +kernel
theorem dX8_isProof_132 : decode cX8_isProof 132 = .ok (.putfield 131, 3) := by decide +kernel
theorem dX8_isProof_135 : decode cX8_isProof 135 = .ok (.iload 5, 2) := by decide +kernel
theorem dX8_isProof_137 : decode cX8_isProof 137 = .ok (.ireturn, 1) := by decide +kernel
set_option maxRecDepth 20000 in
theorem ggX8_bare_X8_takeOne : GoodIn wsX8_bare wsX8_takeOne := goodIn_r _ [5, 6, 7, 8, 9, 10, 11, 4, 12, 13, 14, 15, 16, 17, 18, 19, 20, 21, 22, 23, 24, 25, 26, 27, 28, 29, 30, 31, 32, 33, 34, 35, 36, 37, 38, 39, 40, 41, 42, 43, 44, 45, 46, 47, 48, 49, 50, 51, 52, 53, 54] (by decide +kernel) (by decide +kernel)
set_option maxRecDepth 20000 in
theorem gX8_bare_X8_takeOne : GoodIn wsX8_bare (wsV RX8 160 RX8 yX8_takeOne wsX8_takeOne) := goodIn_app (goodIn_of _ (by decide +kernel)) ggX8_bare_X8_takeOne
theorem dX8_bare_0 : decode cX8_bare 0 = .ok (.iconst 1, 1) := by decide +kernel
theorem dX8_bare_1 : decode cX8_bare 1 = .ok (.istore_n 2, 1) := by decide +kernel
theorem dX8_bare_2 : decode cX8_bare 2 = .ok (.iload_n 2, 1) := by decide +kernel
theorem dX8_bare_3 : decode cX8_bare 3 = .ok (.ifCond .eq 12, 3) := by decide +kernel
theorem dX8_bare_6 : decode cX8_bare 6 = .ok (.aload_n 0, 1) := by decide +kernel
theorem dX8_bare_7 : decode cX8_bare 7 = .ok (.iload_n 1, 1) := by decide +kernel
theorem dX8_bare_8 : decode cX8_bare 8 = .ok (.invokevirtual 160, 3) := by decide +kernel
theorem dX8_bare_11 : decode cX8_bare 11 = .ok (.istore_n 2, 1) := by decide +kernel
theorem dX8_bare_12 : decode cX8_bare 12 = .ok (.goto (-10), 3) := by decide +kernel
theorem dX8_bare_15 : decode cX8_bare 15 = .ok (.return_, 1) := by decide +kernel
theorem dX8_bits_0 : decode cX8_bits 0 = .ok (.iconst 0, 1) := by decide +kernel
theorem dX8_bits_1 : decode cX8_bits 1 = .ok (.istore_n 1, 1) := by decide +kernel
theorem dX8_bits_2 : decode cX8_bits 2 = .ok (.iconst 0, 1) := by decide +kernel
theorem dX8_bits_3 : decode cX8_bits 3 = .ok (.istore_n 2, 1) := by decide +kernel
theorem dX8_bits_4 : decode cX8_bits 4 = .ok (.iload_n 2, 1) := by decide +kernel
theorem dX8_bits_5 : decode cX8_bits 5 = .ok (.bipush 6, 2) := by decide +kernel
theorem dX8_bits_7 : decode cX8_bits 7 = .ok (.if_icmp .ge 17, 3) := by decide +kernel
theorem dX8_bits_10 : decode cX8_bits 10 = .ok (.iload_n 1, 1) := by decide +kernel
theorem dX8_bits_11 : decode cX8_bits 11 = .ok (.iload_n 0, 1) := by decide +kernel
theorem dX8_bits_12 : decode cX8_bits 12 = .ok (.iload_n 2, 1) := by decide +kernel
theorem dX8_bits_13 : decode cX8_bits 13 = .ok (.ishr, 1) := by decide +kernel
theorem dX8_bits_14 : decode cX8_bits 14 = .ok (.iconst 1, 1) := by decide +kernel
theorem dX8_bits_15 : decode cX8_bits 15 = .ok (.iand, 1) := by decide +kernel
theorem dX8_bits_16 : decode cX8_bits 16 = .ok (.iadd, 1) := by decide +kernel
theorem dX8_bits_17 : decode cX8_bits 17 = .ok (.istore_n 1, 1) := by decide +kernel
theorem dX8_bits_18 : decode cX8_bits 18 = .ok (.iinc 2 1, 3) := by decide +kernel
theorem dX8_bits_21 : decode cX8_bits 21 = .ok (.goto (-17), 3) := by decide +kernel
theorem dX8_bits_24 : decode cX8_bits 24 = .ok (.iload_n 1, 1) := by decide +kernel
theorem dX8_bits_25 : decode cX8_bits 25 = .ok (.ireturn, 1) := by decide +kernel
set_option maxRecDepth 20000 in
theorem ggX8_findFewest_X8_bits : GoodIn wsX8_findFewest wsX8_bits := goodIn_r _ [5] (by decide +kernel) (by decide +kernel)
set_option maxRecDepth 20000 in
theorem gX8_findFewest_X8_bits : GoodIn wsX8_findFewest (va_wsS RX8 210 yX8_bits wsX8_bits) := goodIn_app (goodIn_of _ (by decide +kernel)) ggX8_findFewest_X8_bits
set_option maxRecDepth 20000 in
theorem ggX8_findFewest_X8_isProof : GoodIn wsX8_findFewest wsX8_isProof := goodIn_r _ [9, 10, 1, 11, 12, 13, 14, 4, 15, 16, 17, 18, 19, 20, 21, 22, 23, 24, 25, 26, 27, 28, 29, 30, 31, 32, 33, 34, 35, 36, 37, 38, 39, 40, 41, 42, 43, 44, 45, 46, 47, 48, 49, 50, 51, 52, 53, 54, 55, 56, 57, 58, 59, 60, 61, 62, 63, 64, 65, 66, 67, 68, 69, 70, 71, 72, 73, 74, 75, 76, 77, 78, 79, 80, 81, 82, 83, 84, 85, 86, 87, 88, 89, 90, 91, 92] (by decide +kernel) (by decide +kernel)
set_option maxRecDepth 20000 in
theorem gX8_findFewest_X8_isProof : GoodIn wsX8_findFewest (wsV RX8 213 RX8 yX8_isProof wsX8_isProof) := goodIn_app (goodIn_of _ (by decide +kernel)) ggX8_findFewest_X8_isProof
theorem dX8_findFewest_0 : decode cX8_findFewest 0 = .ok (.bipush (-9), 2) := by decide +kernel
theorem dX8_findFewest_2 : decode cX8_findFewest 2 = .ok (.istore_n 3, 1) := by decide +kernel
theorem dX8_findFewest_3 : decode cX8_findFewest 3 = .ok (.iconst 0, 1) := by decide +kernel
theorem dX8_findFewest_4 : decode cX8_findFewest 4 = .ok (.istore 4, 2) := by decide +kernel
theorem dX8_findFewest_6 : decode cX8_findFewest 6 = .ok (.iload 4, 2) := by decide +kernel
theorem dX8_findFewest_8 : decode cX8_findFewest 8 = .ok (.iconst 1, 1) := by decide +kernel
theorem dX8_findFewest_9 : decode cX8_findFewest 9 = .ok (.aload_n 0, 1) := by decide +kernel
theorem dX8_findFewest_10 : decode cX8_findFewest 10 = .ok (.getfield 13, 3) := by decide +kernel
theorem dX8_findFewest_13 : decode cX8_findFewest 13 = .ok (.ishl, 1) := by decide +kernel
theorem dX8_findFewest_14 : decode cX8_findFewest 14 = .ok (.if_icmp .ge 57, 3) := by decide +kernel
theorem dX8_findFewest_17 : decode cX8_findFewest 17 = .ok (.iload_n 3, 1) := by decide +kernel
theorem dX8_findFewest_18 : decode cX8_findFewest 18 = .ok (.bipush (-9), 2) := by decide +kernel
theorem dX8_findFewest_20 : decode cX8_findFewest 20 = .ok (.if_icmp .eq 15, 3) := by decide +kernel
theorem dX8_findFewest_23 : decode cX8_findFewest 23 = .ok (.iload 4, 2) := by decide +kernel
theorem dX8_findFewest_25 : decode cX8_findFewest 25 = .ok (.invokestatic 210, 3) := by decide +kernel
theorem dX8_findFewest_28 : decode cX8_findFewest 28 = .ok (.iload_n 3, 1) := by decide +kernel
theorem dX8_findFewest_29 : decode cX8_findFewest 29 = .ok (.invokestatic 210, 3) := by decide +kernel
theorem dX8_findFewest_32 : decode cX8_findFewest 32 = .ok (.if_icmp .ge 7, 3) := by decide +kernel
theorem dX8_findFewest_35 : decode cX8_findFewest 35 = .ok (.iconst 1, 1) := by decide +kernel
theorem dX8_findFewest_36 : decode cX8_findFewest 36 = .ok (.goto 4, 3) := by decide +kernel
theorem dX8_findFewest_39 : decode cX8_findFewest 39 = .ok (.iconst 0, 1) := by decide +kernel
theorem dX8_findFewest_40 : decode cX8_findFewest 40 = .ok (.istore 5, 2) := by decide +kernel
theorem dX8_findFewest_42 : decode cX8_findFewest 42 = .ok (.iload 5, 2) := by decide +kernel
theorem dX8_findFewest_44 : decode cX8_findFewest 44 = .ok (.ifCond .eq 19, 3) := by decide +kernel
theorem dX8_findFewest_47 : decode cX8_findFewest 47 = .ok (.aload_n 0, 1) := by decide +kernel
theorem dX8_findFewest_48 : decode cX8_findFewest 48 = .ok (.iload_n 1, 1) := by decide +kernel
theorem dX8_findFewest_49 : decode cX8_findFewest 49 = .ok (.iload_n 2, 1) := by decide +kernel
theorem dX8_findFewest_50 : decode cX8_findFewest 50 = .ok (.iload 4, 2) := by decide +kernel
theorem dX8_findFewest_52 : decode cX8_findFewest 52 = .ok (.invokevirtual 213, 3) := by decide +kernel
theorem dX8_findFewest_55 : decode cX8_findFewest 55 = .ok (.ifCond .eq 8, 3) := by decide +kernel
theorem dX8_findFewest_58 : decode cX8_findFewest 58 = .ok (.iload 4, 2) := by decide +kernel
theorem dX8_findFewest_60 : decode cX8_findFewest 60 = .ok (.goto 4, 3) := by decide +kernel
theorem dX8_findFewest_63 : decode cX8_findFewest 63 = .ok (.iload_n 3, 1) := by decide +kernel
theorem dX8_findFewest_64 : decode cX8_findFewest 64 = .ok (.istore_n 3, 1) := by decide +kernel
theorem dX8_findFewest_65 : decode cX8_findFewest 65 = .ok (.iinc 4 1, 3) := by decide +kernel
theorem dX8_findFewest_68 : decode cX8_findFewest 68 = .ok (.goto (-62), 3) := by decide +kernel
theorem dX8_findFewest_71 : decode cX8_findFewest 71 = .ok (.iload_n 3, 1) := by decide +kernel
theorem dX8_findFewest_72 : decode cX8_findFewest 72 = .ok (.ireturn, 1) := by decide +kernel
set_option maxRecDepth 20000 in
theorem ggX8_fewest_X8_noColumn : GoodIn wsX8_fewest wsX8_noColumn := goodIn_r _ [7, 8, 9, 10, 6, 11, 84, 85, 86, 87, 88, 89, 90, 91, 92, 93, 94, 95, 96, 97, 98, 99, 100, 101, 102, 103, 104, 105, 106, 107, 108, 109, 110, 111, 112, 113, 114, 115, 116, 117, 118, 119, 120, 121, 122, 123, 124, 125] (by decide +kernel) (by decide +kernel)
set_option maxRecDepth 20000 in
theorem gX8_fewest_X8_noColumn : GoodIn wsX8_fewest (wsV RX8 127 RX8 yX8_noColumn wsX8_noColumn) := goodIn_app (goodIn_of _ (by decide +kernel)) ggX8_fewest_X8_noColumn
set_option maxRecDepth 20000 in
theorem ggX8_fewest_X8_in : GoodIn wsX8_fewest wsX8_in := goodIn_r _ [11] (by decide +kernel) (by decide +kernel)
set_option maxRecDepth 20000 in
theorem gX8_fewest_X8_in : GoodIn wsX8_fewest (va_wsS RX8 123 yX8_in wsX8_in) := goodIn_app (goodIn_of _ (by decide +kernel)) ggX8_fewest_X8_in
set_option maxRecDepth 20000 in
theorem ggX8_fewest_X8_hold : GoodIn wsX8_fewest wsX8_hold := goodIn_r _ [15, 16, 17, 18, 19, 20, 21, 22, 23, 24, 25, 26, 27, 28, 29, 84, 85, 86, 87, 88, 89, 90, 91, 92, 93, 94, 95, 96, 97, 98, 99, 100, 101, 102, 103, 104, 105, 106, 107, 108, 109, 110, 111, 112, 113, 114, 115, 116, 117, 118, 119, 120, 121, 122, 123, 124, 125] (by decide +kernel) (by decide +kernel)
set_option maxRecDepth 20000 in
theorem gX8_fewest_X8_hold : GoodIn wsX8_fewest (wsV RX8 196 RX8 yX8_hold wsX8_hold) := goodIn_app (goodIn_of _ (by decide +kernel)) ggX8_fewest_X8_hold
set_option maxRecDepth 20000 in
theorem ggX8_fewest_X8_bare : GoodIn wsX8_fewest wsX8_bare := goodIn_r _ [33, 34, 35, 36, 6, 37, 16, 19, 29, 38, 39, 40, 41, 84, 85, 86, 87, 88, 89, 90, 91, 92, 93, 94, 95, 96, 97, 98, 99, 100, 101, 102, 103, 104, 105, 106, 107, 108, 109, 110, 111, 112, 113, 114, 115, 116, 117, 118, 119, 120, 121, 122, 123, 124, 125] (by decide +kernel) (by decide +kernel)
set_option maxRecDepth 20000 in
theorem gX8_fewest_X8_bare : GoodIn wsX8_fewest (wsV RX8 216 RX8 yX8_bare wsX8_bare) := goodIn_app (goodIn_of _ (by decide +kernel)) ggX8_fewest_X8_bare
set_option maxRecDepth 20000 in
theorem ggX8_fewest_X8_findFewest : GoodIn wsX8_fewest wsX8_findFewest := goodIn_r _ [45, 46, 47, 48, 6, 49, 50, 51, 52, 53, 16, 54, 55, 56, 57, 58, 19, 21, 23, 25, 27, 29, 59, 60, 61, 62, 63, 64, 65, 66, 67, 68, 69, 70, 3, 4, 5, 7, 8, 9, 10, 11, 71, 72, 73, 74, 75, 76, 77, 78, 79, 84, 85, 86, 87, 88, 89, 90, 91, 92, 93, 94, 95, 96, 97, 98, 99, 100, 101, 102, 103, 104, 105, 106, 107, 108, 109, 110, 111, 112, 113, 114, 115, 116, 117, 118, 119, 120, 121, 122, 123, 124, 125] (by decide +kernel) (by decide +kernel)
set_option maxRecDepth 20000 in
theorem gX8_fewest_X8_findFewest : GoodIn wsX8_fewest (wsV RX8 219 RX8 yX8_findFewest wsX8_findFewest) := goodIn_app (goodIn_of _ (by decide +kernel)) ggX8_fewest_X8_findFewest
set_option maxRecDepth 20000 in
theorem ggX8_fewest_X8_back : GoodIn wsX8_fewest wsX8_back := goodIn_r _ [83, 17, 16, 19, 18, 21, 20, 23, 22, 25, 24, 27, 26, 29, 28, 84, 85, 86, 87, 88, 89, 90, 91, 92, 93, 94, 95, 96, 97, 98, 99, 100, 101, 102, 103, 104, 105, 106, 107, 108, 109, 110, 111, 112, 113, 114, 115, 116, 117, 118, 119, 120, 121, 122, 123, 124, 125] (by decide +kernel) (by decide +kernel)
set_option maxRecDepth 20000 in
theorem gX8_fewest_X8_back : GoodIn wsX8_fewest (wsV RX8 202 RX8 yX8_back wsX8_back) := goodIn_app (goodIn_of _ (by decide +kernel)) ggX8_fewest_X8_back
theorem dX8_fewest_0 : decode cX8_fewest 0 = .ok (.aload_n 0, 1) := by decide +kernel
theorem dX8_fewest_1 : decode cX8_fewest 1 = .ok (.iconst 0, 1) := by decide +kernel
theorem dX8_fewest_2 : decode cX8_fewest 2 = .ok (.putfield 120, 3) := by decide +kernel
theorem dX8_fewest_5 : decode cX8_fewest 5 = .ok (.aload_n 0, 1) := by decide +kernel
theorem dX8_fewest_6 : decode cX8_fewest 6 = .ok (.iload_n 1, 1) := by decide +kernel
theorem dX8_fewest_7 : decode cX8_fewest 7 = .ok (.invokevirtual 127, 3) := by decide +kernel
theorem dX8_fewest_10 : decode cX8_fewest 10 = .ok (.ifCond .eq 5, 3) := by decide +kernel
theorem dX8_fewest_13 : decode cX8_fewest 13 = .ok (.iconst (-1), 1) := by decide +kernel
theorem dX8_fewest_14 : decode cX8_fewest 14 = .ok (.ireturn, 1) := by decide +kernel
theorem dX8_fewest_15 : decode cX8_fewest 15 = .ok (.iload_n 2, 1) := by decide +kernel
theorem dX8_fewest_16 : decode cX8_fewest 16 = .ok (.i2l, 1) := by decide +kernel
theorem dX8_fewest_17 : decode cX8_fewest 17 = .ok (.lconst 1, 1) := by decide +kernel
theorem dX8_fewest_18 : decode cX8_fewest 18 = .ok (.ldc2_w 136, 3) := by decide +kernel
theorem dX8_fewest_21 : decode cX8_fewest 21 = .ok (.invokestatic 123, 3) := by decide +kernel
theorem dX8_fewest_24 : decode cX8_fewest 24 = .ok (.ifCond .ne 6, 3) := by decide +kernel
theorem dX8_fewest_27 : decode cX8_fewest 27 = .ok (.bipush (-2), 2) := by decide +kernel
theorem dX8_fewest_29 : decode cX8_fewest 29 = .ok (.ireturn, 1) := by decide +kernel
theorem dX8_fewest_30 : decode cX8_fewest 30 = .ok (.aload_n 0, 1) := by decide +kernel
theorem dX8_fewest_31 : decode cX8_fewest 31 = .ok (.invokevirtual 196, 3) := by decide +kernel
theorem dX8_fewest_34 : decode cX8_fewest 34 = .ok (.aload_n 0, 1) := by decide +kernel
theorem dX8_fewest_35 : decode cX8_fewest 35 = .ok (.iload_n 1, 1) := by decide +kernel
theorem dX8_fewest_36 : decode cX8_fewest 36 = .ok (.invokevirtual 216, 3) := by decide +kernel
theorem dX8_fewest_39 : decode cX8_fewest 39 = .ok (.aload_n 0, 1) := by decide +kernel
theorem dX8_fewest_40 : decode cX8_fewest 40 = .ok (.iload_n 1, 1) := by decide +kernel
theorem dX8_fewest_41 : decode cX8_fewest 41 = .ok (.iload_n 2, 1) := by decide +kernel
theorem dX8_fewest_42 : decode cX8_fewest 42 = .ok (.invokevirtual 219, 3) := by decide +kernel
theorem dX8_fewest_45 : decode cX8_fewest 45 = .ok (.istore_n 3, 1) := by decide +kernel
theorem dX8_fewest_46 : decode cX8_fewest 46 = .ok (.aload_n 0, 1) := by decide +kernel
theorem dX8_fewest_47 : decode cX8_fewest 47 = .ok (.invokevirtual 202, 3) := by decide +kernel
theorem dX8_fewest_50 : decode cX8_fewest 50 = .ok (.iload_n 3, 1) := by decide +kernel
theorem dX8_fewest_51 : decode cX8_fewest 51 = .ok (.ireturn, 1) := by decide +kernel
set_option maxRecDepth 20000 in
theorem ggX8_proof_X8_noColumn : GoodIn wsX8_proof wsX8_noColumn := goodIn_r _ [8, 9, 10, 11, 7, 12, 77, 78, 79, 80, 81, 82, 83, 84, 85, 86, 87, 88, 89, 90, 91, 92, 93, 94, 95, 96, 97, 98, 99, 100, 101, 102, 103, 104, 105, 106, 107, 108, 109, 110, 111, 112, 113, 114, 115, 116, 117, 118] (by decide +kernel) (by decide +kernel)
set_option maxRecDepth 20000 in
theorem gX8_proof_X8_noColumn : GoodIn wsX8_proof (wsV RX8 127 RX8 yX8_noColumn wsX8_noColumn) := goodIn_app (goodIn_of _ (by decide +kernel)) ggX8_proof_X8_noColumn
set_option maxRecDepth 20000 in
theorem ggX8_proof_X8_in : GoodIn wsX8_proof wsX8_in := goodIn_r _ [12] (by decide +kernel) (by decide +kernel)
set_option maxRecDepth 20000 in
theorem gX8_proof_X8_in : GoodIn wsX8_proof (va_wsS RX8 123 yX8_in wsX8_in) := goodIn_app (goodIn_of _ (by decide +kernel)) ggX8_proof_X8_in
set_option maxRecDepth 20000 in
theorem ggX8_proof_X8_hold : GoodIn wsX8_proof wsX8_hold := goodIn_r _ [16, 17, 18, 19, 20, 21, 22, 23, 24, 25, 26, 27, 28, 29, 30, 77, 78, 79, 80, 81, 82, 83, 84, 85, 86, 87, 88, 89, 90, 91, 92, 93, 94, 95, 96, 97, 98, 99, 100, 101, 102, 103, 104, 105, 106, 107, 108, 109, 110, 111, 112, 113, 114, 115, 116, 117, 118] (by decide +kernel) (by decide +kernel)
set_option maxRecDepth 20000 in
theorem gX8_proof_X8_hold : GoodIn wsX8_proof (wsV RX8 196 RX8 yX8_hold wsX8_hold) := goodIn_app (goodIn_of _ (by decide +kernel)) ggX8_proof_X8_hold
set_option maxRecDepth 20000 in
theorem ggX8_proof_X8_bare : GoodIn wsX8_proof wsX8_bare := goodIn_r _ [34, 35, 36, 37, 7, 38, 17, 20, 30, 39, 40, 41, 42, 77, 78, 79, 80, 81, 82, 83, 84, 85, 86, 87, 88, 89, 90, 91, 92, 93, 94, 95, 96, 97, 98, 99, 100, 101, 102, 103, 104, 105, 106, 107, 108, 109, 110, 111, 112, 113, 114, 115, 116, 117, 118] (by decide +kernel) (by decide +kernel)
set_option maxRecDepth 20000 in
theorem gX8_proof_X8_bare : GoodIn wsX8_proof (wsV RX8 216 RX8 yX8_bare wsX8_bare) := goodIn_app (goodIn_of _ (by decide +kernel)) ggX8_proof_X8_bare
set_option maxRecDepth 20000 in
theorem ggX8_proof_X8_isProof : GoodIn wsX8_proof wsX8_isProof := goodIn_r _ [46, 17, 3, 47, 48, 49, 50, 7, 51, 20, 22, 24, 26, 28, 30, 52, 53, 54, 55, 56, 57, 58, 59, 60, 61, 62, 63, 4, 5, 6, 8, 9, 10, 11, 12, 64, 65, 66, 67, 68, 69, 70, 71, 72, 77, 78, 79, 80, 81, 82, 83, 84, 85, 86, 87, 88, 89, 90, 91, 92, 93, 94, 95, 96, 97, 98, 99, 100, 101, 102, 103, 104, 105, 106, 107, 108, 109, 110, 111, 112, 113, 114, 115, 116, 117, 118] (by decide +kernel) (by decide +kernel)
set_option maxRecDepth 20000 in
theorem gX8_proof_X8_isProof : GoodIn wsX8_proof (wsV RX8 213 RX8 yX8_isProof wsX8_isProof) := goodIn_app (goodIn_of _ (by decide +kernel)) ggX8_proof_X8_isProof
set_option maxRecDepth 20000 in
theorem ggX8_proof_X8_back : GoodIn wsX8_proof wsX8_back := goodIn_r _ [76, 18, 17, 20, 19, 22, 21, 24, 23, 26, 25, 28, 27, 30, 29, 77, 78, 79, 80, 81, 82, 83, 84, 85, 86, 87, 88, 89, 90, 91, 92, 93, 94, 95, 96, 97, 98, 99, 100, 101, 102, 103, 104, 105, 106, 107, 108, 109, 110, 111, 112, 113, 114, 115, 116, 117, 118] (by decide +kernel) (by decide +kernel)
set_option maxRecDepth 20000 in
theorem gX8_proof_X8_back : GoodIn wsX8_proof (wsV RX8 202 RX8 yX8_back wsX8_back) := goodIn_app (goodIn_of _ (by decide +kernel)) ggX8_proof_X8_back
theorem dX8_proof_0 : decode cX8_proof 0 = .ok (.aload_n 0, 1) := by decide +kernel
theorem dX8_proof_1 : decode cX8_proof 1 = .ok (.iconst 0, 1) := by decide +kernel
theorem dX8_proof_2 : decode cX8_proof 2 = .ok (.putfield 120, 3) := by decide +kernel
theorem dX8_proof_5 : decode cX8_proof 5 = .ok (.aload_n 0, 1) := by decide +kernel
theorem dX8_proof_6 : decode cX8_proof 6 = .ok (.iload_n 1, 1) := by decide +kernel
theorem dX8_proof_7 : decode cX8_proof 7 = .ok (.invokevirtual 127, 3) := by decide +kernel
theorem dX8_proof_10 : decode cX8_proof 10 = .ok (.ifCond .eq 5, 3) := by decide +kernel
theorem dX8_proof_13 : decode cX8_proof 13 = .ok (.iconst (-1), 1) := by decide +kernel
theorem dX8_proof_14 : decode cX8_proof 14 = .ok (.ireturn, 1) := by decide +kernel
theorem dX8_proof_15 : decode cX8_proof 15 = .ok (.iload_n 2, 1) := by decide +kernel
theorem dX8_proof_16 : decode cX8_proof 16 = .ok (.i2l, 1) := by decide +kernel
theorem dX8_proof_17 : decode cX8_proof 17 = .ok (.lconst 1, 1) := by decide +kernel
theorem dX8_proof_18 : decode cX8_proof 18 = .ok (.ldc2_w 136, 3) := by decide +kernel
theorem dX8_proof_21 : decode cX8_proof 21 = .ok (.invokestatic 123, 3) := by decide +kernel
theorem dX8_proof_24 : decode cX8_proof 24 = .ok (.ifCond .eq 21, 3) := by decide +kernel
theorem dX8_proof_27 : decode cX8_proof 27 = .ok (.iload_n 3, 1) := by decide +kernel
theorem dX8_proof_28 : decode cX8_proof 28 = .ok (.i2l, 1) := by decide +kernel
theorem dX8_proof_29 : decode cX8_proof 29 = .ok (.lconst 0, 1) := by decide +kernel
theorem dX8_proof_30 : decode cX8_proof 30 = .ok (.iconst 1, 1) := by decide +kernel
theorem dX8_proof_31 : decode cX8_proof 31 = .ok (.aload_n 0, 1) := by decide +kernel
theorem dX8_proof_32 : decode cX8_proof 32 = .ok (.getfield 13, 3) := by decide +kernel
theorem dX8_proof_35 : decode cX8_proof 35 = .ok (.ishl, 1) := by decide +kernel
theorem dX8_proof_36 : decode cX8_proof 36 = .ok (.iconst 1, 1) := by decide +kernel
theorem dX8_proof_37 : decode cX8_proof 37 = .ok (.isub, 1) := by decide +kernel
theorem dX8_proof_38 : decode cX8_proof 38 = .ok (.i2l, 1) := by decide +kernel
theorem dX8_proof_39 : decode cX8_proof 39 = .ok (.invokestatic 123, 3) := by decide +kernel
theorem dX8_proof_42 : decode cX8_proof 42 = .ok (.ifCond .ne 6, 3) := by decide +kernel
theorem dX8_proof_45 : decode cX8_proof 45 = .ok (.bipush (-2), 2) := by decide +kernel
theorem dX8_proof_47 : decode cX8_proof 47 = .ok (.ireturn, 1) := by decide +kernel
theorem dX8_proof_48 : decode cX8_proof 48 = .ok (.aload_n 0, 1) := by decide +kernel
theorem dX8_proof_49 : decode cX8_proof 49 = .ok (.invokevirtual 196, 3) := by decide +kernel
theorem dX8_proof_52 : decode cX8_proof 52 = .ok (.aload_n 0, 1) := by decide +kernel
theorem dX8_proof_53 : decode cX8_proof 53 = .ok (.iload_n 1, 1) := by decide +kernel
theorem dX8_proof_54 : decode cX8_proof 54 = .ok (.invokevirtual 216, 3) := by decide +kernel
theorem dX8_proof_57 : decode cX8_proof 57 = .ok (.aload_n 0, 1) := by decide +kernel
theorem dX8_proof_58 : decode cX8_proof 58 = .ok (.iload_n 1, 1) := by decide +kernel
theorem dX8_proof_59 : decode cX8_proof 59 = .ok (.iload_n 2, 1) := by decide +kernel
theorem dX8_proof_60 : decode cX8_proof 60 = .ok (.iload_n 3, 1) := by decide +kernel
theorem dX8_proof_61 : decode cX8_proof 61 = .ok (.invokevirtual 213, 3) := by decide +kernel
theorem dX8_proof_64 : decode cX8_proof 64 = .ok (.istore 4, 2) := by decide +kernel
theorem dX8_proof_66 : decode cX8_proof 66 = .ok (.aload_n 0, 1) := by decide +kernel
theorem dX8_proof_67 : decode cX8_proof 67 = .ok (.invokevirtual 202, 3) := by decide +kernel
theorem dX8_proof_70 : decode cX8_proof 70 = .ok (.iload 4, 2) := by decide +kernel
theorem dX8_proof_72 : decode cX8_proof 72 = .ok (.ifCond .eq 7, 3) := by decide +kernel
theorem dX8_proof_75 : decode cX8_proof 75 = .ok (.iconst 1, 1) := by decide +kernel
theorem dX8_proof_76 : decode cX8_proof 76 = .ok (.goto 4, 3) := by decide +kernel
theorem dX8_proof_79 : decode cX8_proof 79 = .ok (.iconst 0, 1) := by decide +kernel
theorem dX8_proof_80 : decode cX8_proof 80 = .ok (.ireturn, 1) := by decide +kernel
set_option maxRecDepth 20000 in
theorem ggX8_grew_X8_in : GoodIn wsX8_grew wsX8_in := goodIn_r _ [9] (by decide +kernel) (by decide +kernel)
set_option maxRecDepth 20000 in
theorem gX8_grew_X8_in : GoodIn wsX8_grew (va_wsS RX8 123 yX8_in wsX8_in) := goodIn_app (goodIn_of _ (by decide +kernel)) ggX8_grew_X8_in
theorem dX8_grew_0 : decode cX8_grew 0 = .ok (.aload_n 0, 1) := by decide +kernel
theorem dX8_grew_1 : decode cX8_grew 1 = .ok (.iconst 0, 1) := by decide +kernel
theorem dX8_grew_2 : decode cX8_grew 2 = .ok (.putfield 120, 3) := by decide +kernel
theorem dX8_grew_5 : decode cX8_grew 5 = .ok (.iload_n 1, 1) := by decide +kernel
theorem dX8_grew_6 : decode cX8_grew 6 = .ok (.i2l, 1) := by decide +kernel
theorem dX8_grew_7 : decode cX8_grew 7 = .ok (.lconst 0, 1) := by decide +kernel
theorem dX8_grew_8 : decode cX8_grew 8 = .ok (.ldc2_w 148, 3) := by decide +kernel
theorem dX8_grew_11 : decode cX8_grew 11 = .ok (.invokestatic 123, 3) := by decide +kernel
theorem dX8_grew_14 : decode cX8_grew 14 = .ok (.ifCond .ne 5, 3) := by decide +kernel
theorem dX8_grew_17 : decode cX8_grew 17 = .ok (.iconst (-1), 1) := by decide +kernel
theorem dX8_grew_18 : decode cX8_grew 18 = .ok (.ireturn, 1) := by decide +kernel
theorem dX8_grew_19 : decode cX8_grew 19 = .ok (.iload_n 2, 1) := by decide +kernel
theorem dX8_grew_20 : decode cX8_grew 20 = .ok (.i2l, 1) := by decide +kernel
theorem dX8_grew_21 : decode cX8_grew 21 = .ok (.lconst 0, 1) := by decide +kernel
theorem dX8_grew_22 : decode cX8_grew 22 = .ok (.ldc2_w 188, 3) := by decide +kernel
theorem dX8_grew_25 : decode cX8_grew 25 = .ok (.invokestatic 123, 3) := by decide +kernel
theorem dX8_grew_28 : decode cX8_grew 28 = .ok (.ifCond .eq 16, 3) := by decide +kernel
theorem dX8_grew_31 : decode cX8_grew 31 = .ok (.iload_n 3, 1) := by decide +kernel
theorem dX8_grew_32 : decode cX8_grew 32 = .ok (.i2l, 1) := by decide +kernel
theorem dX8_grew_33 : decode cX8_grew 33 = .ok (.iload_n 2, 1) := by decide +kernel
theorem dX8_grew_34 : decode cX8_grew 34 = .ok (.i2l, 1) := by decide +kernel
theorem dX8_grew_35 : decode cX8_grew 35 = .ok (.ldc2_w 188, 3) := by decide +kernel
theorem dX8_grew_38 : decode cX8_grew 38 = .ok (.invokestatic 123, 3) := by decide +kernel
theorem dX8_grew_41 : decode cX8_grew 41 = .ok (.ifCond .ne 6, 3) := by decide +kernel
theorem dX8_grew_44 : decode cX8_grew 44 = .ok (.bipush (-2), 2) := by decide +kernel
theorem dX8_grew_46 : decode cX8_grew 46 = .ok (.ireturn, 1) := by decide +kernel
theorem dX8_grew_47 : decode cX8_grew 47 = .ok (.bipush 100, 2) := by decide +kernel
theorem dX8_grew_49 : decode cX8_grew 49 = .ok (.aload_n 0, 1) := by decide +kernel
theorem dX8_grew_50 : decode cX8_grew 50 = .ok (.getfield 87, 3) := by decide +kernel
theorem dX8_grew_53 : decode cX8_grew 53 = .ok (.iload_n 1, 1) := by decide +kernel
theorem dX8_grew_54 : decode cX8_grew 54 = .ok (.iaload, 1) := by decide +kernel
theorem dX8_grew_55 : decode cX8_grew 55 = .ok (.imul, 1) := by decide +kernel
theorem dX8_grew_56 : decode cX8_grew 56 = .ok (.aload_n 0, 1) := by decide +kernel
theorem dX8_grew_57 : decode cX8_grew 57 = .ok (.getfield 90, 3) := by decide +kernel
theorem dX8_grew_60 : decode cX8_grew 60 = .ok (.iload_n 1, 1) := by decide +kernel
theorem dX8_grew_61 : decode cX8_grew 61 = .ok (.iaload, 1) := by decide +kernel
theorem dX8_grew_62 : decode cX8_grew 62 = .ok (.iadd, 1) := by decide +kernel
theorem dX8_grew_63 : decode cX8_grew 63 = .ok (.istore 4, 2) := by decide +kernel
theorem dX8_grew_65 : decode cX8_grew 65 = .ok (.aload_n 0, 1) := by decide +kernel
theorem dX8_grew_66 : decode cX8_grew 66 = .ok (.getfield 87, 3) := by decide +kernel
theorem dX8_grew_69 : decode cX8_grew 69 = .ok (.iload_n 1, 1) := by decide +kernel
theorem dX8_grew_70 : decode cX8_grew 70 = .ok (.iload_n 2, 1) := by decide +kernel
theorem dX8_grew_71 : decode cX8_grew 71 = .ok (.iastore, 1) := by decide +kernel
theorem dX8_grew_72 : decode cX8_grew 72 = .ok (.aload_n 0, 1) := by decide +kernel
theorem dX8_grew_73 : decode cX8_grew 73 = .ok (.getfield 90, 3) := by decide +kernel
theorem dX8_grew_76 : decode cX8_grew 76 = .ok (.iload_n 1, 1) := by decide +kernel
theorem dX8_grew_77 : decode cX8_grew 77 = .ok (.iload_n 3, 1) := by decide +kernel
theorem dX8_grew_78 : decode cX8_grew 78 = .ok (.iastore, 1) := by decide +kernel
theorem dX8_grew_79 : decode cX8_grew 79 = .ok (.iload 4, 2) := by decide +kernel
theorem dX8_grew_81 : decode cX8_grew 81 = .ok (.ireturn, 1) := by decide +kernel
theorem dX8_isOver_0 : decode cX8_isOver 0 = .ok (.iconst 0, 1) := by decide +kernel
theorem dX8_isOver_1 : decode cX8_isOver 1 = .ok (.istore_n 3, 1) := by decide +kernel
theorem dX8_isOver_2 : decode cX8_isOver 2 = .ok (.iconst 0, 1) := by decide +kernel
theorem dX8_isOver_3 : decode cX8_isOver 3 = .ok (.istore 4, 2) := by decide +kernel
theorem dX8_isOver_5 : decode cX8_isOver 5 = .ok (.iload 4, 2) := by decide +kernel
theorem dX8_isOver_7 : decode cX8_isOver 7 = .ok (.bipush 6, 2) := by decide +kernel
theorem dX8_isOver_9 : decode cX8_isOver 9 = .ok (.if_icmp .ge 49, 3) := by decide +kernel
theorem dX8_isOver_12 : decode cX8_isOver 12 = .ok (.iload_n 3, 1) := by decide +kernel
theorem dX8_isOver_13 : decode cX8_isOver 13 = .ok (.ifCond .ne 33, 3) := by decide +kernel
theorem dX8_isOver_16 : decode cX8_isOver 16 = .ok (.aload_n 0, 1) := by decide +kernel
theorem dX8_isOver_17 : decode cX8_isOver 17 = .ok (.getfield 41, 3) := by decide +kernel
theorem dX8_isOver_20 : decode cX8_isOver 20 = .ok (.bipush 6, 2) := by decide +kernel
theorem dX8_isOver_22 : decode cX8_isOver 22 = .ok (.iload_n 1, 1) := by decide +kernel
theorem dX8_isOver_23 : decode cX8_isOver 23 = .ok (.imul, 1) := by decide +kernel
theorem dX8_isOver_24 : decode cX8_isOver 24 = .ok (.iload 4, 2) := by decide +kernel
theorem dX8_isOver_26 : decode cX8_isOver 26 = .ok (.iadd, 1) := by decide +kernel
theorem dX8_isOver_27 : decode cX8_isOver 27 = .ok (.iaload, 1) := by decide +kernel
theorem dX8_isOver_28 : decode cX8_isOver 28 = .ok (.ifCond .le 22, 3) := by decide +kernel
theorem dX8_isOver_31 : decode cX8_isOver 31 = .ok (.aload_n 0, 1) := by decide +kernel
theorem dX8_isOver_32 : decode cX8_isOver 32 = .ok (.getfield 41, 3) := by decide +kernel
theorem dX8_isOver_35 : decode cX8_isOver 35 = .ok (.bipush 6, 2) := by decide +kernel
theorem dX8_isOver_37 : decode cX8_isOver 37 = .ok (.iload_n 2, 1) := by decide +kernel
theorem dX8_isOver_38 : decode cX8_isOver 38 = .ok (.imul, 1) := by decide +kernel
theorem dX8_isOver_39 : decode cX8_isOver 39 = .ok (.iload 4, 2) := by decide +kernel
theorem dX8_isOver_41 : decode cX8_isOver 41 = .ok (.iadd, 1) := by decide +kernel
theorem dX8_isOver_42 : decode cX8_isOver 42 = .ok (.iaload, 1) := by decide +kernel
theorem dX8_isOver_43 : decode cX8_isOver 43 = .ok (.ifCond .le 7, 3) := by decide +kernel
theorem dX8_isOver_46 : decode cX8_isOver 46 = .ok (.iconst 1, 1) := by decide +kernel
theorem dX8_isOver_47 : decode cX8_isOver 47 = .ok (.goto 4, 3) := by decide +kernel
theorem dX8_isOver_50 : decode cX8_isOver 50 = .ok (.iconst 0, 1) := by decide +kernel
theorem dX8_isOver_51 : decode cX8_isOver 51 = .ok (.istore_n 3, 1) := by decide +kernel
theorem dX8_isOver_52 : decode cX8_isOver 52 = .ok (.iinc 4 1, 3) := by decide +kernel
theorem dX8_isOver_55 : decode cX8_isOver 55 = .ok (.goto (-50), 3) := by decide +kernel
theorem dX8_isOver_58 : decode cX8_isOver 58 = .ok (.iload_n 3, 1) := by decide +kernel
theorem dX8_isOver_59 : decode cX8_isOver 59 = .ok (.ifCond .eq 27, 3) := by decide +kernel
theorem dX8_isOver_62 : decode cX8_isOver 62 = .ok (.iload_n 1, 1) := by decide +kernel
theorem dX8_isOver_63 : decode cX8_isOver 63 = .ok (.iload_n 2, 1) := by decide +kernel
theorem dX8_isOver_64 : decode cX8_isOver 64 = .ok (.if_icmp .le 22, 3) := by decide +kernel
theorem dX8_isOver_67 : decode cX8_isOver 67 = .ok (.aload_n 0, 1) := by decide +kernel
theorem dX8_isOver_68 : decode cX8_isOver 68 = .ok (.getfield 26, 3) := by decide +kernel
theorem dX8_isOver_71 : decode cX8_isOver 71 = .ok (.iload_n 1, 1) := by decide +kernel
theorem dX8_isOver_72 : decode cX8_isOver 72 = .ok (.iaload, 1) := by decide +kernel
theorem dX8_isOver_73 : decode cX8_isOver 73 = .ok (.aload_n 0, 1) := by decide +kernel
theorem dX8_isOver_74 : decode cX8_isOver 74 = .ok (.getfield 26, 3) := by decide +kernel
theorem dX8_isOver_77 : decode cX8_isOver 77 = .ok (.iload_n 2, 1) := by decide +kernel
theorem dX8_isOver_78 : decode cX8_isOver 78 = .ok (.iaload, 1) := by decide +kernel
theorem dX8_isOver_79 : decode cX8_isOver 79 = .ok (.if_icmp .ne 7, 3) := by decide +kernel
theorem dX8_isOver_82 : decode cX8_isOver 82 = .ok (.iconst 1, 1) := by decide +kernel
theorem dX8_isOver_83 : decode cX8_isOver 83 = .ok (.goto 4, 3) := by decide +kernel
theorem dX8_isOver_86 : decode cX8_isOver 86 = .ok (.iconst 0, 1) := by decide +kernel
theorem dX8_isOver_87 : decode cX8_isOver 87 = .ok (.ireturn, 1) := by decide +kernel
set_option maxRecDepth 20000 in
theorem ggX8_over_X8_noBundle : GoodIn wsX8_over wsX8_noBundle := goodIn_r _ [6, 7, 8, 9, 5, 10, 17, 18, 19, 20, 21, 22, 23, 24, 25, 26, 27, 28, 29, 30, 31, 32, 33, 34, 35, 36, 37, 38, 39, 40, 41, 42, 43, 44, 45, 46, 47, 48, 49, 50, 51, 52, 53, 54, 55, 56, 57, 58] (by decide +kernel) (by decide +kernel)
set_option maxRecDepth 20000 in
theorem gX8_over_X8_noBundle : GoodIn wsX8_over (wsV RX8 163 RX8 yX8_noBundle wsX8_noBundle) := goodIn_app (goodIn_of _ (by decide +kernel)) ggX8_over_X8_noBundle
set_option maxRecDepth 20000 in
theorem ggX8_over_X8_isOver : GoodIn wsX8_over wsX8_isOver := goodIn_r _ [14, 15, 16, 17, 18, 19, 20, 21, 22, 23, 24, 25, 26, 27, 28, 29, 30, 31, 32, 33, 34, 35, 36, 37, 38, 39, 40, 41, 42, 43, 44, 45, 46, 47, 48, 49, 50, 51, 52, 53, 54, 55, 56, 57, 58] (by decide +kernel) (by decide +kernel)
set_option maxRecDepth 20000 in
theorem gX8_over_X8_isOver : GoodIn wsX8_over (wsV RX8 222 RX8 yX8_isOver wsX8_isOver) := goodIn_app (goodIn_of _ (by decide +kernel)) ggX8_over_X8_isOver
theorem dX8_over_0 : decode cX8_over 0 = .ok (.aload_n 0, 1) := by decide +kernel
theorem dX8_over_1 : decode cX8_over 1 = .ok (.iconst 0, 1) := by decide +kernel
theorem dX8_over_2 : decode cX8_over 2 = .ok (.putfield 120, 3) := by decide +kernel
theorem dX8_over_5 : decode cX8_over 5 = .ok (.aload_n 0, 1) := by decide +kernel
theorem dX8_over_6 : decode cX8_over 6 = .ok (.iload_n 1, 1) := by decide +kernel
theorem dX8_over_7 : decode cX8_over 7 = .ok (.invokevirtual 163, 3) := by decide +kernel
theorem dX8_over_10 : decode cX8_over 10 = .ok (.ifCond .ne 11, 3) := by decide +kernel
theorem dX8_over_13 : decode cX8_over 13 = .ok (.aload_n 0, 1) := by decide +kernel
theorem dX8_over_14 : decode cX8_over 14 = .ok (.iload_n 2, 1) := by decide +kernel
theorem dX8_over_15 : decode cX8_over 15 = .ok (.invokevirtual 163, 3) := by decide +kernel
theorem dX8_over_18 : decode cX8_over 18 = .ok (.ifCond .eq 7, 3) := by decide +kernel
theorem dX8_over_21 : decode cX8_over 21 = .ok (.iconst (-1), 1) := by decide +kernel
theorem dX8_over_22 : decode cX8_over 22 = .ok (.goto 17, 3) := by decide +kernel
theorem dX8_over_25 : decode cX8_over 25 = .ok (.aload_n 0, 1) := by decide +kernel
theorem dX8_over_26 : decode cX8_over 26 = .ok (.iload_n 1, 1) := by decide +kernel
theorem dX8_over_27 : decode cX8_over 27 = .ok (.iload_n 2, 1) := by decide +kernel
theorem dX8_over_28 : decode cX8_over 28 = .ok (.invokevirtual 222, 3) := by decide +kernel
theorem dX8_over_31 : decode cX8_over 31 = .ok (.ifCond .eq 7, 3) := by decide +kernel
theorem dX8_over_34 : decode cX8_over 34 = .ok (.iconst 1, 1) := by decide +kernel
theorem dX8_over_35 : decode cX8_over 35 = .ok (.goto 4, 3) := by decide +kernel
theorem dX8_over_38 : decode cX8_over 38 = .ok (.iconst 0, 1) := by decide +kernel
theorem dX8_over_39 : decode cX8_over 39 = .ok (.ireturn, 1) := by decide +kernel
set_option maxRecDepth 20000 in
theorem ggX8_layEarliest_X8_isOver : GoodIn wsX8_layEarliest wsX8_isOver := goodIn_r _ [10, 11, 12, 17, 18, 19, 20, 21, 22, 23, 24, 25, 26, 27, 28, 29, 30, 31, 32, 33, 34, 35, 36, 37, 38, 39, 40, 41, 42, 43, 44, 45, 46, 47, 48, 49, 50, 51, 52, 53, 54, 55, 56, 57, 58] (by decide +kernel) (by decide +kernel)
set_option maxRecDepth 20000 in
theorem gX8_layEarliest_X8_isOver : GoodIn wsX8_layEarliest (wsV RX8 222 RX8 yX8_isOver wsX8_isOver) := goodIn_app (goodIn_of _ (by decide +kernel)) ggX8_layEarliest_X8_isOver
set_option maxRecDepth 20000 in
theorem ggX8_layEarliest_X8_leftOf : GoodIn wsX8_layEarliest wsX8_leftOf := goodIn_r _ [16, 11, 17, 18, 19, 20, 21, 22, 23, 24, 25, 26, 27, 28, 29, 30, 31, 32, 33, 34, 35, 36, 37, 38, 39, 40, 41, 42, 43, 44, 45, 46, 47, 48, 49, 50, 51, 52, 53, 54, 55, 56, 57, 58] (by decide +kernel) (by decide +kernel)
set_option maxRecDepth 20000 in
theorem gX8_layEarliest_X8_leftOf : GoodIn wsX8_layEarliest (wsV RX8 156 RX8 yX8_leftOf wsX8_leftOf) := goodIn_app (goodIn_of _ (by decide +kernel)) ggX8_layEarliest_X8_leftOf
theorem dX8_layEarliest_0 : decode cX8_layEarliest 0 = .ok (.bipush (-9), 2) := by decide +kernel
theorem dX8_layEarliest_2 : decode cX8_layEarliest 2 = .ok (.istore_n 1, 1) := by decide +kernel
theorem dX8_layEarliest_3 : decode cX8_layEarliest 3 = .ok (.iconst 0, 1) := by decide +kernel
theorem dX8_layEarliest_4 : decode cX8_layEarliest 4 = .ok (.istore_n 2, 1) := by decide +kernel
theorem dX8_layEarliest_5 : decode cX8_layEarliest 5 = .ok (.iload_n 2, 1) := by decide +kernel
theorem dX8_layEarliest_6 : decode cX8_layEarliest 6 = .ok (.aload_n 0, 1) := by decide +kernel
theorem dX8_layEarliest_7 : decode cX8_layEarliest 7 = .ok (.getfield 131, 3) := by decide +kernel
theorem dX8_layEarliest_10 : decode cX8_layEarliest 10 = .ok (.if_icmp .ge 124, 3) := by decide +kernel
theorem dX8_layEarliest_13 : decode cX8_layEarliest 13 = .ok (.aload_n 0, 1) := by decide +kernel
theorem dX8_layEarliest_14 : decode cX8_layEarliest 14 = .ok (.getfield 105, 3) := by decide +kernel
theorem dX8_layEarliest_17 : decode cX8_layEarliest 17 = .ok (.iload_n 2, 1) := by decide +kernel
theorem dX8_layEarliest_18 : decode cX8_layEarliest 18 = .ok (.aload_n 0, 1) := by decide +kernel
theorem dX8_layEarliest_19 : decode cX8_layEarliest 19 = .ok (.getfield 87, 3) := by decide +kernel
theorem dX8_layEarliest_22 : decode cX8_layEarliest 22 = .ok (.aload_n 0, 1) := by decide +kernel
theorem dX8_layEarliest_23 : decode cX8_layEarliest 23 = .ok (.getfield 35, 3) := by decide +kernel
theorem dX8_layEarliest_26 : decode cX8_layEarliest 26 = .ok (.iload_n 2, 1) := by decide +kernel
theorem dX8_layEarliest_27 : decode cX8_layEarliest 27 = .ok (.iaload, 1) := by decide +kernel
theorem dX8_layEarliest_28 : decode cX8_layEarliest 28 = .ok (.iaload, 1) := by decide +kernel
theorem dX8_layEarliest_29 : decode cX8_layEarliest 29 = .ok (.iastore, 1) := by decide +kernel
theorem dX8_layEarliest_30 : decode cX8_layEarliest 30 = .ok (.iconst 0, 1) := by decide +kernel
theorem dX8_layEarliest_31 : decode cX8_layEarliest 31 = .ok (.istore_n 3, 1) := by decide +kernel
theorem dX8_layEarliest_32 : decode cX8_layEarliest 32 = .ok (.iload_n 3, 1) := by decide +kernel
theorem dX8_layEarliest_33 : decode cX8_layEarliest 33 = .ok (.iload_n 2, 1) := by decide +kernel
theorem dX8_layEarliest_34 : decode cX8_layEarliest 34 = .ok (.if_icmp .ge 54, 3) := by decide +kernel
theorem dX8_layEarliest_37 : decode cX8_layEarliest 37 = .ok (.aload_n 0, 1) := by decide +kernel
theorem dX8_layEarliest_38 : decode cX8_layEarliest 38 = .ok (.getfield 105, 3) := by decide +kernel
theorem dX8_layEarliest_41 : decode cX8_layEarliest 41 = .ok (.iload_n 2, 1) := by decide +kernel
theorem dX8_layEarliest_42 : decode cX8_layEarliest 42 = .ok (.aload_n 0, 1) := by decide +kernel
theorem dX8_layEarliest_43 : decode cX8_layEarliest 43 = .ok (.iload_n 2, 1) := by decide +kernel
theorem dX8_layEarliest_44 : decode cX8_layEarliest 44 = .ok (.iload_n 3, 1) := by decide +kernel
theorem dX8_layEarliest_45 : decode cX8_layEarliest 45 = .ok (.invokevirtual 222, 3) := by decide +kernel
theorem dX8_layEarliest_48 : decode cX8_layEarliest 48 = .ok (.ifCond .eq 27, 3) := by decide +kernel
theorem dX8_layEarliest_51 : decode cX8_layEarliest 51 = .ok (.aload_n 0, 1) := by decide +kernel
theorem dX8_layEarliest_52 : decode cX8_layEarliest 52 = .ok (.getfield 105, 3) := by decide +kernel
theorem dX8_layEarliest_55 : decode cX8_layEarliest 55 = .ok (.iload_n 3, 1) := by decide +kernel
theorem dX8_layEarliest_56 : decode cX8_layEarliest 56 = .ok (.iaload, 1) := by decide +kernel
theorem dX8_layEarliest_57 : decode cX8_layEarliest 57 = .ok (.aload_n 0, 1) := by decide +kernel
theorem dX8_layEarliest_58 : decode cX8_layEarliest 58 = .ok (.getfield 105, 3) := by decide +kernel
theorem dX8_layEarliest_61 : decode cX8_layEarliest 61 = .ok (.iload_n 2, 1) := by decide +kernel
theorem dX8_layEarliest_62 : decode cX8_layEarliest 62 = .ok (.iaload, 1) := by decide +kernel
theorem dX8_layEarliest_63 : decode cX8_layEarliest 63 = .ok (.if_icmp .le 12, 3) := by decide +kernel
theorem dX8_layEarliest_66 : decode cX8_layEarliest 66 = .ok (.aload_n 0, 1) := by decide +kernel
theorem dX8_layEarliest_67 : decode cX8_layEarliest 67 = .ok (.getfield 105, 3) := by decide +kernel
theorem dX8_layEarliest_70 : decode cX8_layEarliest 70 = .ok (.iload_n 3, 1) := by decide +kernel
theorem dX8_layEarliest_71 : decode cX8_layEarliest 71 = .ok (.iaload, 1) := by decide +kernel
theorem dX8_layEarliest_72 : decode cX8_layEarliest 72 = .ok (.goto 9, 3) := by decide +kernel
theorem dX8_layEarliest_75 : decode cX8_layEarliest 75 = .ok (.aload_n 0, 1) := by decide +kernel
theorem dX8_layEarliest_76 : decode cX8_layEarliest 76 = .ok (.getfield 105, 3) := by decide +kernel
theorem dX8_layEarliest_79 : decode cX8_layEarliest 79 = .ok (.iload_n 2, 1) := by decide +kernel
theorem dX8_layEarliest_80 : decode cX8_layEarliest 80 = .ok (.iaload, 1) := by decide +kernel
theorem dX8_layEarliest_81 : decode cX8_layEarliest 81 = .ok (.iastore, 1) := by decide +kernel
theorem dX8_layEarliest_82 : decode cX8_layEarliest 82 = .ok (.iinc 3 1, 3) := by decide +kernel
theorem dX8_layEarliest_85 : decode cX8_layEarliest 85 = .ok (.goto (-53), 3) := by decide +kernel
theorem dX8_layEarliest_88 : decode cX8_layEarliest 88 = .ok (.iload_n 1, 1) := by decide +kernel
theorem dX8_layEarliest_89 : decode cX8_layEarliest 89 = .ok (.bipush (-9), 2) := by decide +kernel
theorem dX8_layEarliest_91 : decode cX8_layEarliest 91 = .ok (.if_icmp .ne 35, 3) := by decide +kernel
theorem dX8_layEarliest_94 : decode cX8_layEarliest 94 = .ok (.aload_n 0, 1) := by decide +kernel
theorem dX8_layEarliest_95 : decode cX8_layEarliest 95 = .ok (.iload_n 2, 1) := by decide +kernel
theorem dX8_layEarliest_96 : decode cX8_layEarliest 96 = .ok (.invokevirtual 156, 3) := by decide +kernel
theorem dX8_layEarliest_99 : decode cX8_layEarliest 99 = .ok (.ifCond .le 27, 3) := by decide +kernel
theorem dX8_layEarliest_102 : decode cX8_layEarliest 102 = .ok (.aload_n 0, 1) := by decide +kernel
theorem dX8_layEarliest_103 : decode cX8_layEarliest 103 = .ok (.getfield 105, 3) := by decide +kernel
theorem dX8_layEarliest_106 : decode cX8_layEarliest 106 = .ok (.iload_n 2, 1) := by decide +kernel
theorem dX8_layEarliest_107 : decode cX8_layEarliest 107 = .ok (.iaload, 1) := by decide +kernel
theorem dX8_layEarliest_108 : decode cX8_layEarliest 108 = .ok (.aload_n 0, 1) := by decide +kernel
theorem dX8_layEarliest_109 : decode cX8_layEarliest 109 = .ok (.getfield 90, 3) := by decide +kernel
theorem dX8_layEarliest_112 : decode cX8_layEarliest 112 = .ok (.aload_n 0, 1) := by decide +kernel
theorem dX8_layEarliest_113 : decode cX8_layEarliest 113 = .ok (.getfield 35, 3) := by decide +kernel
theorem dX8_layEarliest_116 : decode cX8_layEarliest 116 = .ok (.iload_n 2, 1) := by decide +kernel
theorem dX8_layEarliest_117 : decode cX8_layEarliest 117 = .ok (.iaload, 1) := by decide +kernel
theorem dX8_layEarliest_118 : decode cX8_layEarliest 118 = .ok (.iaload, 1) := by decide +kernel
theorem dX8_layEarliest_119 : decode cX8_layEarliest 119 = .ok (.if_icmp .le 7, 3) := by decide +kernel
theorem dX8_layEarliest_122 : decode cX8_layEarliest 122 = .ok (.iload_n 2, 1) := by decide +kernel
theorem dX8_layEarliest_123 : decode cX8_layEarliest 123 = .ok (.goto 4, 3) := by decide +kernel
theorem dX8_layEarliest_126 : decode cX8_layEarliest 126 = .ok (.iload_n 1, 1) := by decide +kernel
theorem dX8_layEarliest_127 : decode cX8_layEarliest 127 = .ok (.istore_n 1, 1) := by decide +kernel
theorem dX8_layEarliest_128 : decode cX8_layEarliest 128 = .ok (.iinc 2 1, 3) := by decide +kernel
theorem dX8_layEarliest_131 : decode cX8_layEarliest 131 = .ok (.goto (-126), 3) := by decide +kernel
theorem dX8_layEarliest_134 : decode cX8_layEarliest 134 = .ok (.iload_n 1, 1) := by decide +kernel
theorem dX8_layEarliest_135 : decode cX8_layEarliest 135 = .ok (.ireturn, 1) := by decide +kernel
set_option maxRecDepth 20000 in
theorem ggX8_layLatest_X8_isOver : GoodIn wsX8_layLatest wsX8_isOver := goodIn_r _ [9, 10, 11, 12, 13, 14, 15, 16, 17, 18, 19, 20, 21, 22, 23, 24, 25, 26, 27, 28, 29, 30, 31, 32, 33, 34, 35, 36, 37, 38, 39, 40, 41, 42, 43, 44, 45, 46, 47, 48, 49, 50, 51, 52, 53] (by decide +kernel) (by decide +kernel)
set_option maxRecDepth 20000 in
theorem gX8_layLatest_X8_isOver : GoodIn wsX8_layLatest (wsV RX8 222 RX8 yX8_isOver wsX8_isOver) := goodIn_app (goodIn_of _ (by decide +kernel)) ggX8_layLatest_X8_isOver
theorem dX8_layLatest_0 : decode cX8_layLatest 0 = .ok (.aload_n 0, 1) := by decide +kernel
theorem dX8_layLatest_1 : decode cX8_layLatest 1 = .ok (.getfield 131, 3) := by decide +kernel
theorem dX8_layLatest_4 : decode cX8_layLatest 4 = .ok (.iconst 1, 1) := by decide +kernel
theorem dX8_layLatest_5 : decode cX8_layLatest 5 = .ok (.isub, 1) := by decide +kernel
theorem dX8_layLatest_6 : decode cX8_layLatest 6 = .ok (.istore_n 1, 1) := by decide +kernel
theorem dX8_layLatest_7 : decode cX8_layLatest 7 = .ok (.iload_n 1, 1) := by decide +kernel
theorem dX8_layLatest_8 : decode cX8_layLatest 8 = .ok (.ifCond .lt 89, 3) := by decide +kernel
theorem dX8_layLatest_11 : decode cX8_layLatest 11 = .ok (.aload_n 0, 1) := by decide +kernel
theorem dX8_layLatest_12 : decode cX8_layLatest 12 = .ok (.getfield 105, 3) := by decide +kernel
theorem dX8_layLatest_15 : decode cX8_layLatest 15 = .ok (.iload_n 1, 1) := by decide +kernel
theorem dX8_layLatest_16 : decode cX8_layLatest 16 = .ok (.aload_n 0, 1) := by decide +kernel
theorem dX8_layLatest_17 : decode cX8_layLatest 17 = .ok (.getfield 90, 3) := by decide +kernel
theorem dX8_layLatest_20 : decode cX8_layLatest 20 = .ok (.aload_n 0, 1) := by decide +kernel
theorem dX8_layLatest_21 : decode cX8_layLatest 21 = .ok (.getfield 35, 3) := by decide +kernel
theorem dX8_layLatest_24 : decode cX8_layLatest 24 = .ok (.iload_n 1, 1) := by decide +kernel
theorem dX8_layLatest_25 : decode cX8_layLatest 25 = .ok (.iaload, 1) := by decide +kernel
theorem dX8_layLatest_26 : decode cX8_layLatest 26 = .ok (.iaload, 1) := by decide +kernel
theorem dX8_layLatest_27 : decode cX8_layLatest 27 = .ok (.iastore, 1) := by decide +kernel
theorem dX8_layLatest_28 : decode cX8_layLatest 28 = .ok (.iload_n 1, 1) := by decide +kernel
theorem dX8_layLatest_29 : decode cX8_layLatest 29 = .ok (.iconst 1, 1) := by decide +kernel
theorem dX8_layLatest_30 : decode cX8_layLatest 30 = .ok (.iadd, 1) := by decide +kernel
theorem dX8_layLatest_31 : decode cX8_layLatest 31 = .ok (.istore_n 2, 1) := by decide +kernel
theorem dX8_layLatest_32 : decode cX8_layLatest 32 = .ok (.iload_n 2, 1) := by decide +kernel
theorem dX8_layLatest_33 : decode cX8_layLatest 33 = .ok (.aload_n 0, 1) := by decide +kernel
theorem dX8_layLatest_34 : decode cX8_layLatest 34 = .ok (.getfield 131, 3) := by decide +kernel
theorem dX8_layLatest_37 : decode cX8_layLatest 37 = .ok (.if_icmp .ge 54, 3) := by decide +kernel
theorem dX8_layLatest_40 : decode cX8_layLatest 40 = .ok (.aload_n 0, 1) := by decide +kernel
theorem dX8_layLatest_41 : decode cX8_layLatest 41 = .ok (.getfield 105, 3) := by decide +kernel
theorem dX8_layLatest_44 : decode cX8_layLatest 44 = .ok (.iload_n 1, 1) := by decide +kernel
theorem dX8_layLatest_45 : decode cX8_layLatest 45 = .ok (.aload_n 0, 1) := by decide +kernel
theorem dX8_layLatest_46 : decode cX8_layLatest 46 = .ok (.iload_n 2, 1) := by decide +kernel
theorem dX8_layLatest_47 : decode cX8_layLatest 47 = .ok (.iload_n 1, 1) := by decide +kernel
theorem dX8_layLatest_48 : decode cX8_layLatest 48 = .ok (.invokevirtual 222, 3) := by decide +kernel
theorem dX8_layLatest_51 : decode cX8_layLatest 51 = .ok (.ifCond .eq 27, 3) := by decide +kernel
theorem dX8_layLatest_54 : decode cX8_layLatest 54 = .ok (.aload_n 0, 1) := by decide +kernel
theorem dX8_layLatest_55 : decode cX8_layLatest 55 = .ok (.getfield 105, 3) := by decide +kernel
theorem dX8_layLatest_58 : decode cX8_layLatest 58 = .ok (.iload_n 2, 1) := by decide +kernel
theorem dX8_layLatest_59 : decode cX8_layLatest 59 = .ok (.iaload, 1) := by decide +kernel
theorem dX8_layLatest_60 : decode cX8_layLatest 60 = .ok (.aload_n 0, 1) := by decide +kernel
theorem dX8_layLatest_61 : decode cX8_layLatest 61 = .ok (.getfield 105, 3) := by decide +kernel
theorem dX8_layLatest_64 : decode cX8_layLatest 64 = .ok (.iload_n 1, 1) := by decide +kernel
theorem dX8_layLatest_65 : decode cX8_layLatest 65 = .ok (.iaload, 1) := by decide +kernel
theorem dX8_layLatest_66 : decode cX8_layLatest 66 = .ok (.if_icmp .ge 12, 3) := by decide +kernel
theorem dX8_layLatest_69 : decode cX8_layLatest 69 = .ok (.aload_n 0, 1) := by decide +kernel
theorem dX8_layLatest_70 : decode cX8_layLatest 70 = .ok (.getfield 105, 3) := by decide +kernel
theorem dX8_layLatest_73 : decode cX8_layLatest 73 = .ok (.iload_n 2, 1) := by decide +kernel
theorem dX8_layLatest_74 : decode cX8_layLatest 74 = .ok (.iaload, 1) := by decide +kernel
theorem dX8_layLatest_75 : decode cX8_layLatest 75 = .ok (.goto 9, 3) := by decide +kernel
theorem dX8_layLatest_78 : decode cX8_layLatest 78 = .ok (.aload_n 0, 1) := by decide +kernel
theorem dX8_layLatest_79 : decode cX8_layLatest 79 = .ok (.getfield 105, 3) := by decide +kernel
theorem dX8_layLatest_82 : decode cX8_layLatest 82 = .ok (.iload_n 1, 1) := by decide +kernel
theorem dX8_layLatest_83 : decode cX8_layLatest 83 = .ok (.iaload, 1) := by decide +kernel
theorem dX8_layLatest_84 : decode cX8_layLatest 84 = .ok (.iastore, 1) := by decide +kernel
theorem dX8_layLatest_85 : decode cX8_layLatest 85 = .ok (.iinc 2 1, 3) := by decide +kernel
theorem dX8_layLatest_88 : decode cX8_layLatest 88 = .ok (.goto (-56), 3) := by decide +kernel
theorem dX8_layLatest_91 : decode cX8_layLatest 91 = .ok (.iinc 1 (-1), 3) := by decide +kernel
theorem dX8_layLatest_94 : decode cX8_layLatest 94 = .ok (.goto (-87), 3) := by decide +kernel
theorem dX8_layLatest_97 : decode cX8_layLatest 97 = .ok (.return_, 1) := by decide +kernel
set_option maxRecDepth 20000 in
theorem ggX8_when_X8_noBundle : GoodIn wsX8_when wsX8_noBundle := goodIn_r _ [7, 8, 9, 10, 6, 11, 33, 34, 35, 36, 37, 38, 39, 40, 41, 42, 43, 44, 45, 46, 47, 48, 49, 50, 51, 52, 53, 54, 55, 56, 57, 58, 59, 60, 61, 62, 63, 64, 65, 66, 67, 68, 69, 70, 71, 72, 73, 74] (by decide +kernel) (by decide +kernel)
set_option maxRecDepth 20000 in
theorem gX8_when_X8_noBundle : GoodIn wsX8_when (wsV RX8 163 RX8 yX8_noBundle wsX8_noBundle) := goodIn_app (goodIn_of _ (by decide +kernel)) ggX8_when_X8_noBundle
set_option maxRecDepth 20000 in
theorem ggX8_when_X8_leftOf : GoodIn wsX8_when wsX8_leftOf := goodIn_r _ [15, 16, 33, 34, 35, 36, 37, 38, 39, 40, 41, 42, 43, 44, 45, 46, 47, 48, 49, 50, 51, 52, 53, 54, 55, 56, 57, 58, 59, 60, 61, 62, 63, 64, 65, 66, 67, 68, 69, 70, 71, 72, 73, 74] (by decide +kernel) (by decide +kernel)
set_option maxRecDepth 20000 in
theorem gX8_when_X8_leftOf : GoodIn wsX8_when (wsV RX8 156 RX8 yX8_leftOf wsX8_leftOf) := goodIn_app (goodIn_of _ (by decide +kernel)) ggX8_when_X8_leftOf
set_option maxRecDepth 20000 in
theorem ggX8_when_X8_layEarliest : GoodIn wsX8_when wsX8_layEarliest := goodIn_r _ [20, 8, 2, 21, 22, 23, 24, 25, 26, 6, 27, 16, 28, 12, 13, 14, 15, 33, 34, 35, 36, 37, 38, 39, 40, 41, 42, 43, 44, 45, 46, 47, 48, 49, 50, 51, 52, 53, 54, 55, 56, 57, 58, 59, 60, 61, 62, 63, 64, 65, 66, 67, 68, 69, 70, 71, 72, 73, 74] (by decide +kernel) (by decide +kernel)
set_option maxRecDepth 20000 in
theorem gX8_when_X8_layEarliest : GoodIn wsX8_when (wsV RX8 225 RX8 yX8_layEarliest wsX8_layEarliest) := goodIn_app (goodIn_of _ (by decide +kernel)) ggX8_when_X8_layEarliest
set_option maxRecDepth 20000 in
theorem ggX8_when_X8_layLatest : GoodIn wsX8_when wsX8_layLatest := goodIn_r _ [32, 8, 2, 23, 22, 24, 25, 26, 6, 27, 16, 28, 33, 34, 35, 36, 37, 38, 39, 40, 41, 42, 43, 44, 45, 46, 47, 48, 49, 50, 51, 52, 53, 54, 55, 56, 57, 58, 59, 60, 61, 62, 63, 64, 65, 66, 67, 68, 69, 70, 71, 72, 73, 74] (by decide +kernel) (by decide +kernel)
set_option maxRecDepth 20000 in
theorem gX8_when_X8_layLatest : GoodIn wsX8_when (wsV RX8 228 RX8 yX8_layLatest wsX8_layLatest) := goodIn_app (goodIn_of _ (by decide +kernel)) ggX8_when_X8_layLatest
theorem dX8_when_0 : decode cX8_when 0 = .ok (.aload_n 0, 1) := by decide +kernel
theorem dX8_when_1 : decode cX8_when 1 = .ok (.iconst 0, 1) := by decide +kernel
theorem dX8_when_2 : decode cX8_when 2 = .ok (.putfield 120, 3) := by decide +kernel
theorem dX8_when_5 : decode cX8_when 5 = .ok (.aload_n 0, 1) := by decide +kernel
theorem dX8_when_6 : decode cX8_when 6 = .ok (.iload_n 1, 1) := by decide +kernel
theorem dX8_when_7 : decode cX8_when 7 = .ok (.invokevirtual 163, 3) := by decide +kernel
theorem dX8_when_10 : decode cX8_when 10 = .ok (.ifCond .eq 5, 3) := by decide +kernel
theorem dX8_when_13 : decode cX8_when 13 = .ok (.iconst (-1), 1) := by decide +kernel
theorem dX8_when_14 : decode cX8_when 14 = .ok (.ireturn, 1) := by decide +kernel
theorem dX8_when_15 : decode cX8_when 15 = .ok (.aload_n 0, 1) := by decide +kernel
theorem dX8_when_16 : decode cX8_when 16 = .ok (.iload_n 1, 1) := by decide +kernel
theorem dX8_when_17 : decode cX8_when 17 = .ok (.invokevirtual 156, 3) := by decide +kernel
theorem dX8_when_20 : decode cX8_when 20 = .ok (.ifCond .ne 6, 3) := by decide +kernel
theorem dX8_when_23 : decode cX8_when 23 = .ok (.bipush (-3), 2) := by decide +kernel
theorem dX8_when_25 : decode cX8_when 25 = .ok (.ireturn, 1) := by decide +kernel
theorem dX8_when_26 : decode cX8_when 26 = .ok (.aload_n 0, 1) := by decide +kernel
theorem dX8_when_27 : decode cX8_when 27 = .ok (.invokevirtual 225, 3) := by decide +kernel
theorem dX8_when_30 : decode cX8_when 30 = .ok (.bipush (-9), 2) := by decide +kernel
theorem dX8_when_32 : decode cX8_when 32 = .ok (.if_icmp .eq 6, 3) := by decide +kernel
theorem dX8_when_35 : decode cX8_when 35 = .ok (.bipush (-9), 2) := by decide +kernel
theorem dX8_when_37 : decode cX8_when 37 = .ok (.ireturn, 1) := by decide +kernel
theorem dX8_when_38 : decode cX8_when 38 = .ok (.iload_n 2, 1) := by decide +kernel
theorem dX8_when_39 : decode cX8_when 39 = .ok (.ifCond .eq 7, 3) := by decide +kernel
theorem dX8_when_42 : decode cX8_when 42 = .ok (.aload_n 0, 1) := by decide +kernel
theorem dX8_when_43 : decode cX8_when 43 = .ok (.invokevirtual 228, 3) := by decide +kernel
theorem dX8_when_46 : decode cX8_when 46 = .ok (.aload_n 0, 1) := by decide +kernel
theorem dX8_when_47 : decode cX8_when 47 = .ok (.getfield 105, 3) := by decide +kernel
theorem dX8_when_50 : decode cX8_when 50 = .ok (.iload_n 1, 1) := by decide +kernel
theorem dX8_when_51 : decode cX8_when 51 = .ok (.iaload, 1) := by decide +kernel
theorem dX8_when_52 : decode cX8_when 52 = .ok (.ireturn, 1) := by decide +kernel
set_option maxRecDepth 20000 in
theorem ggX8_wrong_X8_layEarliest : GoodIn wsX8_wrong wsX8_layEarliest := goodIn_r _ [6, 7, 8, 9, 10, 11, 12, 13, 14, 5, 15, 16, 17, 18, 19, 20, 21, 22, 23, 24, 25, 26, 27, 28, 29, 30, 31, 32, 33, 34, 35, 36, 37, 38, 39, 40, 41, 42, 43, 44, 45, 46, 47, 48, 49, 50, 51, 52, 53, 54, 55, 56, 57, 58, 59, 60, 61, 62, 63] (by decide +kernel) (by decide +kernel)
set_option maxRecDepth 20000 in
theorem gX8_wrong_X8_layEarliest : GoodIn wsX8_wrong (wsV RX8 225 RX8 yX8_layEarliest wsX8_layEarliest) := goodIn_app (goodIn_of _ (by decide +kernel)) ggX8_wrong_X8_layEarliest
theorem dX8_wrong_0 : decode cX8_wrong 0 = .ok (.aload_n 0, 1) := by decide +kernel
theorem dX8_wrong_1 : decode cX8_wrong 1 = .ok (.iconst 0, 1) := by decide +kernel
theorem dX8_wrong_2 : decode cX8_wrong 2 = .ok (.putfield 120, 3) := by decide +kernel
theorem dX8_wrong_5 : decode cX8_wrong 5 = .ok (.aload_n 0, 1) := by decide +kernel
theorem dX8_wrong_6 : decode cX8_wrong 6 = .ok (.invokevirtual 225, 3) := by decide +kernel
theorem dX8_wrong_9 : decode cX8_wrong 9 = .ok (.ireturn, 1) := by decide +kernel
set_option maxRecDepth 20000 in
theorem ggX8_ways_X8_noColumn : GoodIn wsX8_ways wsX8_noColumn := goodIn_r _ [15, 16, 17, 18, 14, 19, 29, 30, 31, 32, 33, 34, 35, 36, 37, 38, 39, 40, 41, 42, 43, 44, 45, 46, 47, 48, 49, 50, 51, 52, 53, 54, 55, 56, 57, 58, 59, 60, 61, 62, 63, 64, 65, 66, 67, 68, 69, 70] (by decide +kernel) (by decide +kernel)
set_option maxRecDepth 20000 in
theorem gX8_ways_X8_noColumn : GoodIn wsX8_ways (wsV RX8 127 RX8 yX8_noColumn wsX8_noColumn) := goodIn_app (goodIn_of _ (by decide +kernel)) ggX8_ways_X8_noColumn
set_option maxRecDepth 20000 in
theorem ggX8_ways_X8_leftOf : GoodIn wsX8_ways wsX8_leftOf := goodIn_r _ [23, 24, 29, 30, 31, 32, 33, 34, 35, 36, 37, 38, 39, 40, 41, 42, 43, 44, 45, 46, 47, 48, 49, 50, 51, 52, 53, 54, 55, 56, 57, 58, 59, 60, 61, 62, 63, 64, 65, 66, 67, 68, 69, 70] (by decide +kernel) (by decide +kernel)
set_option maxRecDepth 20000 in
theorem gX8_ways_X8_leftOf : GoodIn wsX8_ways (wsV RX8 156 RX8 yX8_leftOf wsX8_leftOf) := goodIn_app (goodIn_of _ (by decide +kernel)) ggX8_ways_X8_leftOf
set_option maxRecDepth 20000 in
theorem ggX8_ways_X8_isOver : GoodIn wsX8_ways wsX8_isOver := goodIn_r _ [28, 24, 4, 29, 30, 31, 32, 33, 34, 35, 36, 37, 38, 39, 40, 41, 42, 43, 44, 45, 46, 47, 48, 49, 50, 51, 52, 53, 54, 55, 56, 57, 58, 59, 60, 61, 62, 63, 64, 65, 66, 67, 68, 69, 70] (by decide +kernel) (by decide +kernel)
set_option maxRecDepth 20000 in
theorem gX8_ways_X8_isOver : GoodIn wsX8_ways (wsV RX8 222 RX8 yX8_isOver wsX8_isOver) := goodIn_app (goodIn_of _ (by decide +kernel)) ggX8_ways_X8_isOver
theorem dX8_ways_0 : decode cX8_ways 0 = .ok (.aload_n 0, 1) := by decide +kernel
theorem dX8_ways_1 : decode cX8_ways 1 = .ok (.iconst 0, 1) := by decide +kernel
theorem dX8_ways_2 : decode cX8_ways 2 = .ok (.putfield 120, 3) := by decide +kernel
theorem dX8_ways_5 : decode cX8_ways 5 = .ok (.aload_n 0, 1) := by decide +kernel
theorem dX8_ways_6 : decode cX8_ways 6 = .ok (.iload_n 1, 1) := by decide +kernel
theorem dX8_ways_7 : decode cX8_ways 7 = .ok (.invokevirtual 127, 3) := by decide +kernel
theorem dX8_ways_10 : decode cX8_ways 10 = .ok (.ifCond .eq 7, 3) := by decide +kernel
theorem dX8_ways_13 : decode cX8_ways 13 = .ok (.ldc2_w 231, 3) := by decide +kernel
theorem dX8_ways_16 : decode cX8_ways 16 = .ok (.lreturn, 1) := by decide +kernel
theorem dX8_ways_17 : decode cX8_ways 17 = .ok (.iconst 0, 1) := by decide +kernel
theorem dX8_ways_18 : decode cX8_ways 18 = .ok (.istore_n 2, 1) := by decide +kernel
theorem dX8_ways_19 : decode cX8_ways 19 = .ok (.iconst 0, 1) := by decide +kernel
theorem dX8_ways_20 : decode cX8_ways 20 = .ok (.istore_n 3, 1) := by decide +kernel
theorem dX8_ways_21 : decode cX8_ways 21 = .ok (.iload_n 3, 1) := by decide +kernel
theorem dX8_ways_22 : decode cX8_ways 22 = .ok (.aload_n 0, 1) := by decide +kernel
theorem dX8_ways_23 : decode cX8_ways 23 = .ok (.getfield 131, 3) := by decide +kernel
theorem dX8_ways_26 : decode cX8_ways 26 = .ok (.if_icmp .ge 74, 3) := by decide +kernel
theorem dX8_ways_29 : decode cX8_ways 29 = .ok (.aload_n 0, 1) := by decide +kernel
theorem dX8_ways_30 : decode cX8_ways 30 = .ok (.getfield 26, 3) := by decide +kernel
theorem dX8_ways_33 : decode cX8_ways 33 = .ok (.iload_n 3, 1) := by decide +kernel
theorem dX8_ways_34 : decode cX8_ways 34 = .ok (.iaload, 1) := by decide +kernel
theorem dX8_ways_35 : decode cX8_ways 35 = .ok (.iload_n 1, 1) := by decide +kernel
theorem dX8_ways_36 : decode cX8_ways 36 = .ok (.if_icmp .ne 58, 3) := by decide +kernel
theorem dX8_ways_39 : decode cX8_ways 39 = .ok (.aload_n 0, 1) := by decide +kernel
theorem dX8_ways_40 : decode cX8_ways 40 = .ok (.iload_n 3, 1) := by decide +kernel
theorem dX8_ways_41 : decode cX8_ways 41 = .ok (.invokevirtual 156, 3) := by decide +kernel
theorem dX8_ways_44 : decode cX8_ways 44 = .ok (.ifCond .le 50, 3) := by decide +kernel
theorem dX8_ways_47 : decode cX8_ways 47 = .ok (.iload_n 2, 1) := by decide +kernel
theorem dX8_ways_48 : decode cX8_ways 48 = .ok (.iconst 5, 1) := by decide +kernel
theorem dX8_ways_49 : decode cX8_ways 49 = .ok (.if_icmp .eq 31, 3) := by decide +kernel
theorem dX8_ways_52 : decode cX8_ways 52 = .ok (.aload_n 0, 1) := by decide +kernel
theorem dX8_ways_53 : decode cX8_ways 53 = .ok (.getfield 90, 3) := by decide +kernel
theorem dX8_ways_56 : decode cX8_ways 56 = .ok (.aload_n 0, 1) := by decide +kernel
theorem dX8_ways_57 : decode cX8_ways 57 = .ok (.getfield 35, 3) := by decide +kernel
theorem dX8_ways_60 : decode cX8_ways 60 = .ok (.iload_n 3, 1) := by decide +kernel
theorem dX8_ways_61 : decode cX8_ways 61 = .ok (.iaload, 1) := by decide +kernel
theorem dX8_ways_62 : decode cX8_ways 62 = .ok (.iaload, 1) := by decide +kernel
theorem dX8_ways_63 : decode cX8_ways 63 = .ok (.aload_n 0, 1) := by decide +kernel
theorem dX8_ways_64 : decode cX8_ways 64 = .ok (.getfield 87, 3) := by decide +kernel
theorem dX8_ways_67 : decode cX8_ways 67 = .ok (.aload_n 0, 1) := by decide +kernel
theorem dX8_ways_68 : decode cX8_ways 68 = .ok (.getfield 35, 3) := by decide +kernel
theorem dX8_ways_71 : decode cX8_ways 71 = .ok (.iload_n 3, 1) := by decide +kernel
theorem dX8_ways_72 : decode cX8_ways 72 = .ok (.iaload, 1) := by decide +kernel
theorem dX8_ways_73 : decode cX8_ways 73 = .ok (.iaload, 1) := by decide +kernel
theorem dX8_ways_74 : decode cX8_ways 74 = .ok (.isub, 1) := by decide +kernel
theorem dX8_ways_75 : decode cX8_ways 75 = .ok (.bipush 9, 2) := by decide +kernel
theorem dX8_ways_77 : decode cX8_ways 77 = .ok (.if_icmp .le 7, 3) := by decide +kernel
theorem dX8_ways_80 : decode cX8_ways 80 = .ok (.ldc2_w 233, 3) := by decide +kernel
theorem dX8_ways_83 : decode cX8_ways 83 = .ok (.lreturn, 1) := by decide +kernel
theorem dX8_ways_84 : decode cX8_ways 84 = .ok (.aload_n 0, 1) := by decide +kernel
theorem dX8_ways_85 : decode cX8_ways 85 = .ok (.getfield 108, 3) := by decide +kernel
theorem dX8_ways_88 : decode cX8_ways 88 = .ok (.iload_n 2, 1) := by decide +kernel
theorem dX8_ways_89 : decode cX8_ways 89 = .ok (.iload_n 3, 1) := by decide +kernel
theorem dX8_ways_90 : decode cX8_ways 90 = .ok (.iastore, 1) := by decide +kernel
theorem dX8_ways_91 : decode cX8_ways 91 = .ok (.iinc 2 1, 3) := by decide +kernel
theorem dX8_ways_94 : decode cX8_ways 94 = .ok (.iinc 3 1, 3) := by decide +kernel
theorem dX8_ways_97 : decode cX8_ways 97 = .ok (.goto (-76), 3) := by decide +kernel
theorem dX8_ways_100 : decode cX8_ways 100 = .ok (.iconst 0, 1) := by decide +kernel
theorem dX8_ways_101 : decode cX8_ways 101 = .ok (.istore_n 3, 1) := by decide +kernel
theorem dX8_ways_102 : decode cX8_ways 102 = .ok (.iload_n 3, 1) := by decide +kernel
theorem dX8_ways_103 : decode cX8_ways 103 = .ok (.iload_n 2, 1) := by decide +kernel
theorem dX8_ways_104 : decode cX8_ways 104 = .ok (.if_icmp .ge 31, 3) := by decide +kernel
theorem dX8_ways_107 : decode cX8_ways 107 = .ok (.aload_n 0, 1) := by decide +kernel
theorem dX8_ways_108 : decode cX8_ways 108 = .ok (.getfield 111, 3) := by decide +kernel
theorem dX8_ways_111 : decode cX8_ways 111 = .ok (.iload_n 3, 1) := by decide +kernel
theorem dX8_ways_112 : decode cX8_ways 112 = .ok (.aload_n 0, 1) := by decide +kernel
theorem dX8_ways_113 : decode cX8_ways 113 = .ok (.getfield 87, 3) := by decide +kernel
theorem dX8_ways_116 : decode cX8_ways 116 = .ok (.aload_n 0, 1) := by decide +kernel
theorem dX8_ways_117 : decode cX8_ways 117 = .ok (.getfield 35, 3) := by decide +kernel
theorem dX8_ways_120 : decode cX8_ways 120 = .ok (.aload_n 0, 1) := by decide +kernel
theorem dX8_ways_121 : decode cX8_ways 121 = .ok (.getfield 108, 3) := by decide +kernel
theorem dX8_ways_124 : decode cX8_ways 124 = .ok (.iload_n 3, 1) := by decide +kernel
theorem dX8_ways_125 : decode cX8_ways 125 = .ok (.iaload, 1) := by decide +kernel
theorem dX8_ways_126 : decode cX8_ways 126 = .ok (.iaload, 1) := by decide +kernel
theorem dX8_ways_127 : decode cX8_ways 127 = .ok (.iaload, 1) := by decide +kernel
theorem dX8_ways_128 : decode cX8_ways 128 = .ok (.iastore, 1) := by decide +kernel
theorem dX8_ways_129 : decode cX8_ways 129 = .ok (.iinc 3 1, 3) := by decide +kernel
theorem dX8_ways_132 : decode cX8_ways 132 = .ok (.goto (-30), 3) := by decide +kernel
theorem dX8_ways_135 : decode cX8_ways 135 = .ok (.lconst 0, 1) := by decide +kernel
theorem dX8_ways_136 : decode cX8_ways 136 = .ok (.lstore_n 3, 1) := by decide +kernel
theorem dX8_ways_137 : decode cX8_ways 137 = .ok (.iconst 1, 1) := by decide +kernel
theorem dX8_ways_138 : decode cX8_ways 138 = .ok (.istore 5, 2) := by decide +kernel
theorem dX8_ways_140 : decode cX8_ways 140 = .ok (.iload 5, 2) := by decide +kernel
theorem dX8_ways_142 : decode cX8_ways 142 = .ok (.ifCond .eq 198, 3) := by decide +kernel
theorem dX8_ways_145 : decode cX8_ways 145 = .ok (.iconst 1, 1) := by decide +kernel
theorem dX8_ways_146 : decode cX8_ways 146 = .ok (.istore 6, 2) := by decide +kernel
theorem dX8_ways_148 : decode cX8_ways 148 = .ok (.iconst 0, 1) := by decide +kernel
theorem dX8_ways_149 : decode cX8_ways 149 = .ok (.istore 7, 2) := by decide +kernel
theorem dX8_ways_151 : decode cX8_ways 151 = .ok (.iload 7, 2) := by decide +kernel
theorem dX8_ways_153 : decode cX8_ways 153 = .ok (.iload_n 2, 1) := by decide +kernel
theorem dX8_ways_154 : decode cX8_ways 154 = .ok (.if_icmp .ge 75, 3) := by decide +kernel
theorem dX8_ways_157 : decode cX8_ways 157 = .ok (.iconst 0, 1) := by decide +kernel
theorem dX8_ways_158 : decode cX8_ways 158 = .ok (.istore 8, 2) := by decide +kernel
theorem dX8_ways_160 : decode cX8_ways 160 = .ok (.iload 8, 2) := by decide +kernel
theorem dX8_ways_162 : decode cX8_ways 162 = .ok (.iload 7, 2) := by decide +kernel
theorem dX8_ways_164 : decode cX8_ways 164 = .ok (.if_icmp .ge 59, 3) := by decide +kernel
theorem dX8_ways_167 : decode cX8_ways 167 = .ok (.iload 6, 2) := by decide +kernel
theorem dX8_ways_169 : decode cX8_ways 169 = .ok (.ifCond .eq 45, 3) := by decide +kernel
theorem dX8_ways_172 : decode cX8_ways 172 = .ok (.aload_n 0, 1) := by decide +kernel
theorem dX8_ways_173 : decode cX8_ways 173 = .ok (.getfield 111, 3) := by decide +kernel
theorem dX8_ways_176 : decode cX8_ways 176 = .ok (.iload 7, 2) := by decide +kernel
theorem dX8_ways_178 : decode cX8_ways 178 = .ok (.iaload, 1) := by decide +kernel
theorem dX8_ways_179 : decode cX8_ways 179 = .ok (.aload_n 0, 1) := by decide +kernel
theorem dX8_ways_180 : decode cX8_ways 180 = .ok (.getfield 111, 3) := by decide +kernel
theorem dX8_ways_183 : decode cX8_ways 183 = .ok (.iload 8, 2) := by decide +kernel
theorem dX8_ways_185 : decode cX8_ways 185 = .ok (.iaload, 1) := by decide +kernel
theorem dX8_ways_186 : decode cX8_ways 186 = .ok (.if_icmp .ge 24, 3) := by decide +kernel
theorem dX8_ways_189 : decode cX8_ways 189 = .ok (.aload_n 0, 1) := by decide +kernel
theorem dX8_ways_190 : decode cX8_ways 190 = .ok (.aload_n 0, 1) := by decide +kernel
theorem dX8_ways_191 : decode cX8_ways 191 = .ok (.getfield 108, 3) := by decide +kernel
theorem dX8_ways_194 : decode cX8_ways 194 = .ok (.iload 7, 2) := by decide +kernel
theorem dX8_ways_196 : decode cX8_ways 196 = .ok (.iaload, 1) := by decide +kernel
theorem dX8_ways_197 : decode cX8_ways 197 = .ok (.aload_n 0, 1) := by decide +kernel
theorem dX8_ways_198 : decode cX8_ways 198 = .ok (.getfield 108, 3) := by decide +kernel
theorem dX8_ways_201 : decode cX8_ways 201 = .ok (.iload 8, 2) := by decide +kernel
theorem dX8_ways_203 : decode cX8_ways 203 = .ok (.iaload, 1) := by decide +kernel
theorem dX8_ways_204 : decode cX8_ways 204 = .ok (.invokevirtual 222, 3) := by decide +kernel
theorem dX8_ways_207 : decode cX8_ways 207 = .ok (.ifCond .ne 7, 3) := by decide +kernel
theorem dX8_ways_210 : decode cX8_ways 210 = .ok (.iconst 1, 1) := by decide +kernel
theorem dX8_ways_211 : decode cX8_ways 211 = .ok (.goto 4, 3) := by decide +kernel
theorem dX8_ways_214 : decode cX8_ways 214 = .ok (.iconst 0, 1) := by decide +kernel
theorem dX8_ways_215 : decode cX8_ways 215 = .ok (.istore 6, 2) := by decide +kernel
theorem dX8_ways_217 : decode cX8_ways 217 = .ok (.iinc 8 1, 3) := by decide +kernel
theorem dX8_ways_220 : decode cX8_ways 220 = .ok (.goto (-60), 3) := by decide +kernel
theorem dX8_ways_223 : decode cX8_ways 223 = .ok (.iinc 7 1, 3) := by decide +kernel
theorem dX8_ways_226 : decode cX8_ways 226 = .ok (.goto (-75), 3) := by decide +kernel
theorem dX8_ways_229 : decode cX8_ways 229 = .ok (.lload_n 3, 1) := by decide +kernel
theorem dX8_ways_230 : decode cX8_ways 230 = .ok (.iload 6, 2) := by decide +kernel
theorem dX8_ways_232 : decode cX8_ways 232 = .ok (.ifCond .eq 7, 3) := by decide +kernel
theorem dX8_ways_235 : decode cX8_ways 235 = .ok (.lconst 1, 1) := by decide +kernel
theorem dX8_ways_236 : decode cX8_ways 236 = .ok (.goto 4, 3) := by decide +kernel
theorem dX8_ways_239 : decode cX8_ways 239 = .ok (.lconst 0, 1) := by decide +kernel
theorem dX8_ways_240 : decode cX8_ways 240 = .ok (.ladd, 1) := by decide +kernel
theorem dX8_ways_241 : decode cX8_ways 241 = .ok (.lstore_n 3, 1) := by decide +kernel
theorem dX8_ways_242 : decode cX8_ways 242 = .ok (.iload_n 2, 1) := by decide +kernel
theorem dX8_ways_243 : decode cX8_ways 243 = .ok (.iconst 1, 1) := by decide +kernel
theorem dX8_ways_244 : decode cX8_ways 244 = .ok (.isub, 1) := by decide +kernel
theorem dX8_ways_245 : decode cX8_ways 245 = .ok (.istore 7, 2) := by decide +kernel
theorem dX8_ways_247 : decode cX8_ways 247 = .ok (.iload 7, 2) := by decide +kernel
theorem dX8_ways_249 : decode cX8_ways 249 = .ok (.ifCond .lt 60, 3) := by decide +kernel
theorem dX8_ways_252 : decode cX8_ways 252 = .ok (.aload_n 0, 1) := by decide +kernel
theorem dX8_ways_253 : decode cX8_ways 253 = .ok (.getfield 111, 3) := by decide +kernel
theorem dX8_ways_256 : decode cX8_ways 256 = .ok (.iload 7, 2) := by decide +kernel
theorem dX8_ways_258 : decode cX8_ways 258 = .ok (.iaload, 1) := by decide +kernel
theorem dX8_ways_259 : decode cX8_ways 259 = .ok (.aload_n 0, 1) := by decide +kernel
theorem dX8_ways_260 : decode cX8_ways 260 = .ok (.getfield 90, 3) := by decide +kernel
theorem dX8_ways_263 : decode cX8_ways 263 = .ok (.aload_n 0, 1) := by decide +kernel
theorem dX8_ways_264 : decode cX8_ways 264 = .ok (.getfield 35, 3) := by decide +kernel
theorem dX8_ways_267 : decode cX8_ways 267 = .ok (.aload_n 0, 1) := by decide +kernel
theorem dX8_ways_268 : decode cX8_ways 268 = .ok (.getfield 108, 3) := by decide +kernel
theorem dX8_ways_271 : decode cX8_ways 271 = .ok (.iload 7, 2) := by decide +kernel
theorem dX8_ways_273 : decode cX8_ways 273 = .ok (.iaload, 1) := by decide +kernel
theorem dX8_ways_274 : decode cX8_ways 274 = .ok (.iaload, 1) := by decide +kernel
theorem dX8_ways_275 : decode cX8_ways 275 = .ok (.iaload, 1) := by decide +kernel
theorem dX8_ways_276 : decode cX8_ways 276 = .ok (.if_icmp .ne 33, 3) := by decide +kernel
theorem dX8_ways_279 : decode cX8_ways 279 = .ok (.aload_n 0, 1) := by decide +kernel
theorem dX8_ways_280 : decode cX8_ways 280 = .ok (.getfield 111, 3) := by decide +kernel
theorem dX8_ways_283 : decode cX8_ways 283 = .ok (.iload 7, 2) := by decide +kernel
theorem dX8_ways_285 : decode cX8_ways 285 = .ok (.aload_n 0, 1) := by decide +kernel
theorem dX8_ways_286 : decode cX8_ways 286 = .ok (.getfield 87, 3) := by decide +kernel
theorem dX8_ways_289 : decode cX8_ways 289 = .ok (.aload_n 0, 1) := by decide +kernel
theorem dX8_ways_290 : decode cX8_ways 290 = .ok (.getfield 35, 3) := by decide +kernel
theorem dX8_ways_293 : decode cX8_ways 293 = .ok (.aload_n 0, 1) := by decide +kernel
theorem dX8_ways_294 : decode cX8_ways 294 = .ok (.getfield 108, 3) := by decide +kernel
theorem dX8_ways_297 : decode cX8_ways 297 = .ok (.iload 7, 2) := by decide +kernel
theorem dX8_ways_299 : decode cX8_ways 299 = .ok (.iaload, 1) := by decide +kernel
theorem dX8_ways_300 : decode cX8_ways 300 = .ok (.iaload, 1) := by decide +kernel
theorem dX8_ways_301 : decode cX8_ways 301 = .ok (.iaload, 1) := by decide +kernel
theorem dX8_ways_302 : decode cX8_ways 302 = .ok (.iastore, 1) := by decide +kernel
theorem dX8_ways_303 : decode cX8_ways 303 = .ok (.iinc 7 (-1), 3) := by decide +kernel
theorem dX8_ways_306 : decode cX8_ways 306 = .ok (.goto (-59), 3) := by decide +kernel
theorem dX8_ways_309 : decode cX8_ways 309 = .ok (.iload 7, 2) := by decide +kernel
theorem dX8_ways_311 : decode cX8_ways 311 = .ok (.ifCond .lt 7, 3) := by decide +kernel
theorem dX8_ways_314 : decode cX8_ways 314 = .ok (.iconst 1, 1) := by decide +kernel
theorem dX8_ways_315 : decode cX8_ways 315 = .ok (.goto 4, 3) := by decide +kernel
theorem dX8_ways_318 : decode cX8_ways 318 = .ok (.iconst 0, 1) := by decide +kernel
theorem dX8_ways_319 : decode cX8_ways 319 = .ok (.istore 5, 2) := by decide +kernel
theorem dX8_ways_321 : decode cX8_ways 321 = .ok (.iload 5, 2) := by decide +kernel
theorem dX8_ways_323 : decode cX8_ways 323 = .ok (.ifCond .eq 14, 3) := by decide +kernel
theorem dX8_ways_326 : decode cX8_ways 326 = .ok (.aload_n 0, 1) := by decide +kernel
theorem dX8_ways_327 : decode cX8_ways 327 = .ok (.getfield 111, 3) := by decide +kernel
theorem dX8_ways_330 : decode cX8_ways 330 = .ok (.iload 7, 2) := by decide +kernel
theorem dX8_ways_332 : decode cX8_ways 332 = .ok (.dup2, 1) := by decide +kernel
theorem dX8_ways_333 : decode cX8_ways 333 = .ok (.iaload, 1) := by decide +kernel
theorem dX8_ways_334 : decode cX8_ways 334 = .ok (.iconst 1, 1) := by decide +kernel
theorem dX8_ways_335 : decode cX8_ways 335 = .ok (.iadd, 1) := by decide +kernel
theorem dX8_ways_336 : decode cX8_ways 336 = .ok (.iastore, 1) := by decide +kernel
theorem dX8_ways_337 : decode cX8_ways 337 = .ok (.goto (-197), 3) := by decide +kernel
theorem dX8_ways_340 : decode cX8_ways 340 = .ok (.lload_n 3, 1) := by decide +kernel
theorem dX8_ways_341 : decode cX8_ways 341 = .ok (.lreturn, 1) := by decide +kernel
set_option maxRecDepth 20000 in
theorem ggX8_layStraw_X8_noCell : GoodIn wsX8_layStraw wsX8_noCell := goodIn_r _ [7, 8, 9, 10, 11, 6, 12, 13, 14, 15, 16, 23, 24, 25, 26, 27, 28, 29, 30, 31, 32, 33, 34, 35, 36, 37, 38, 39, 40, 41, 42, 43, 44, 45, 46, 47, 48, 49, 50, 51, 52, 53, 54, 55, 56, 57, 58, 59, 60, 61, 62, 63, 64] (by decide +kernel) (by decide +kernel)
set_option maxRecDepth 20000 in
theorem gX8_layStraw_X8_noCell : GoodIn wsX8_layStraw (wsV RX8 138 RX8 yX8_noCell wsX8_noCell) := goodIn_app (goodIn_of _ (by decide +kernel)) ggX8_layStraw_X8_noCell
set_option maxRecDepth 20000 in
theorem ggX8_layStraw_X8_topOf : GoodIn wsX8_layStraw wsX8_topOf := goodIn_r _ [20, 21, 22, 23, 24, 25, 26, 27, 28, 29, 30, 31, 32, 33, 34, 35, 36, 37, 38, 39, 40, 41, 42, 43, 44, 45, 46, 47, 48, 49, 50, 51, 52, 53, 54, 55, 56, 57, 58, 59, 60, 61, 62, 63, 64] (by decide +kernel) (by decide +kernel)
set_option maxRecDepth 20000 in
theorem gX8_layStraw_X8_topOf : GoodIn wsX8_layStraw (wsV RX8 144 RX8 yX8_topOf wsX8_topOf) := goodIn_app (goodIn_of _ (by decide +kernel)) ggX8_layStraw_X8_topOf
theorem dX8_layStraw_0 : decode cX8_layStraw 0 = .ok (.iconst 0, 1) := by decide +kernel
theorem dX8_layStraw_1 : decode cX8_layStraw 1 = .ok (.istore_n 1, 1) := by decide +kernel
theorem dX8_layStraw_2 : decode cX8_layStraw 2 = .ok (.iload_n 1, 1) := by decide +kernel
theorem dX8_layStraw_3 : decode cX8_layStraw 3 = .ok (.bipush 6, 2) := by decide +kernel
theorem dX8_layStraw_5 : decode cX8_layStraw 5 = .ok (.if_icmp .ge 63, 3) := by decide +kernel
theorem dX8_layStraw_8 : decode cX8_layStraw 8 = .ok (.iconst 0, 1) := by decide +kernel
theorem dX8_layStraw_9 : decode cX8_layStraw 9 = .ok (.istore_n 2, 1) := by decide +kernel
theorem dX8_layStraw_10 : decode cX8_layStraw 10 = .ok (.iload_n 2, 1) := by decide +kernel
theorem dX8_layStraw_11 : decode cX8_layStraw 11 = .ok (.bipush 6, 2) := by decide +kernel
theorem dX8_layStraw_13 : decode cX8_layStraw 13 = .ok (.if_icmp .ge 49, 3) := by decide +kernel
theorem dX8_layStraw_16 : decode cX8_layStraw 16 = .ok (.aload_n 0, 1) := by decide +kernel
theorem dX8_layStraw_17 : decode cX8_layStraw 17 = .ok (.getfield 114, 3) := by decide +kernel
theorem dX8_layStraw_20 : decode cX8_layStraw 20 = .ok (.bipush 6, 2) := by decide +kernel
theorem dX8_layStraw_22 : decode cX8_layStraw 22 = .ok (.iload_n 1, 1) := by decide +kernel
theorem dX8_layStraw_23 : decode cX8_layStraw 23 = .ok (.imul, 1) := by decide +kernel
theorem dX8_layStraw_24 : decode cX8_layStraw 24 = .ok (.iload_n 2, 1) := by decide +kernel
theorem dX8_layStraw_25 : decode cX8_layStraw 25 = .ok (.iadd, 1) := by decide +kernel
theorem dX8_layStraw_26 : decode cX8_layStraw 26 = .ok (.aload_n 0, 1) := by decide +kernel
theorem dX8_layStraw_27 : decode cX8_layStraw 27 = .ok (.iload_n 1, 1) := by decide +kernel
theorem dX8_layStraw_28 : decode cX8_layStraw 28 = .ok (.iload_n 2, 1) := by decide +kernel
theorem dX8_layStraw_29 : decode cX8_layStraw 29 = .ok (.invokevirtual 138, 3) := by decide +kernel
theorem dX8_layStraw_32 : decode cX8_layStraw 32 = .ok (.ifCond .ne 22, 3) := by decide +kernel
theorem dX8_layStraw_35 : decode cX8_layStraw 35 = .ok (.aload_n 0, 1) := by decide +kernel
theorem dX8_layStraw_36 : decode cX8_layStraw 36 = .ok (.iload_n 1, 1) := by decide +kernel
theorem dX8_layStraw_37 : decode cX8_layStraw 37 = .ok (.iload_n 2, 1) := by decide +kernel
theorem dX8_layStraw_38 : decode cX8_layStraw 38 = .ok (.aload_n 0, 1) := by decide +kernel
theorem dX8_layStraw_39 : decode cX8_layStraw 39 = .ok (.getfield 131, 3) := by decide +kernel
