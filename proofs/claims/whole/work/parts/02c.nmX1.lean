theorem dX1_init_0 : decode cX1_init 0 = .ok (.aload_n 0, 1) := by decide +kernel
theorem dX1_init_1 : decode cX1_init 1 = .ok (.invokespecial 3, 3) := by decide +kernel
theorem dX1_init_4 : decode cX1_init 4 = .ok (.aload_n 0, 1) := by decide +kernel
theorem dX1_init_5 : decode cX1_init 5 = .ok (.bipush 40, 2) := by decide +kernel
theorem dX1_init_7 : decode cX1_init 7 = .ok (.newarray .int, 2) := by decide +kernel
theorem dX1_init_9 : decode cX1_init 9 = .ok (.putfield 9, 3) := by decide +kernel
theorem dX1_init_12 : decode cX1_init 12 = .ok (.aload_n 0, 1) := by decide +kernel
theorem dX1_init_13 : decode cX1_init 13 = .ok (.bipush 40, 2) := by decide +kernel
theorem dX1_init_15 : decode cX1_init 15 = .ok (.newarray .int, 2) := by decide +kernel
theorem dX1_init_17 : decode cX1_init 17 = .ok (.putfield 15, 3) := by decide +kernel
theorem dX1_init_20 : decode cX1_init 20 = .ok (.aload_n 0, 1) := by decide +kernel
theorem dX1_init_21 : decode cX1_init 21 = .ok (.bipush 40, 2) := by decide +kernel
theorem dX1_init_23 : decode cX1_init 23 = .ok (.newarray .int, 2) := by decide +kernel
theorem dX1_init_25 : decode cX1_init 25 = .ok (.putfield 18, 3) := by decide +kernel
theorem dX1_init_28 : decode cX1_init 28 = .ok (.aload_n 0, 1) := by decide +kernel
theorem dX1_init_29 : decode cX1_init 29 = .ok (.bipush 40, 2) := by decide +kernel
theorem dX1_init_31 : decode cX1_init 31 = .ok (.newarray .int, 2) := by decide +kernel
theorem dX1_init_33 : decode cX1_init 33 = .ok (.putfield 21, 3) := by decide +kernel
theorem dX1_init_36 : decode cX1_init 36 = .ok (.aload_n 0, 1) := by decide +kernel
theorem dX1_init_37 : decode cX1_init 37 = .ok (.bipush 40, 2) := by decide +kernel
theorem dX1_init_39 : decode cX1_init 39 = .ok (.newarray .int, 2) := by decide +kernel
theorem dX1_init_41 : decode cX1_init 41 = .ok (.putfield 24, 3) := by decide +kernel
theorem dX1_init_44 : decode cX1_init 44 = .ok (.aload_n 0, 1) := by decide +kernel
theorem dX1_init_45 : decode cX1_init 45 = .ok (.sipush 240, 3) := by decide +kernel
theorem dX1_init_48 : decode cX1_init 48 = .ok (.newarray .int, 2) := by decide +kernel
theorem dX1_init_50 : decode cX1_init 50 = .ok (.putfield 27, 3) := by decide +kernel
theorem dX1_init_53 : decode cX1_init 53 = .ok (.aload_n 0, 1) := by decide +kernel
theorem dX1_init_54 : decode cX1_init 54 = .ok (.bipush 60, 2) := by decide +kernel
theorem dX1_init_56 : decode cX1_init 56 = .ok (.newarray .long, 2) := by decide +kernel
theorem dX1_init_58 : decode cX1_init 58 = .ok (.putfield 30, 3) := by decide +kernel
theorem dX1_init_61 : decode cX1_init 61 = .ok (.aload_n 0, 1) := by decide +kernel
theorem dX1_init_62 : decode cX1_init 62 = .ok (.aload_n 1, 1) := by decide +kernel
theorem dX1_init_63 : decode cX1_init 63 = .ok (.putfield 34, 3) := by decide +kernel
theorem dX1_init_66 : decode cX1_init 66 = .ok (.return_, 1) := by decide +kernel
set_option maxRecDepth 20000 in
theorem ggX1_bare_J7_fill_53178 : GoodIn wsX1_bare wsJ7_fill_53178 := goodIn_r _ [7] (by decide +kernel) (by decide +kernel)
set_option maxRecDepth 20000 in
theorem gX1_bare_J7_fill_53178 : GoodIn wsX1_bare (va_wsS RX1 42 yJ7_fill_53178 wsJ7_fill_53178) := goodIn_app (goodIn_of _ (by decide +kernel)) ggX1_bare_J7_fill_53178
set_option maxRecDepth 20000 in
theorem ggX1_bare_J7_fill_d0a16 : GoodIn wsX1_bare wsJ7_fill_d0a16 := goodIn_r _ [10] (by decide +kernel) (by decide +kernel)
set_option maxRecDepth 20000 in
theorem gX1_bare_J7_fill_d0a16 : GoodIn wsX1_bare (va_wsS RX1 48 yJ7_fill_d0a16 wsJ7_fill_d0a16) := goodIn_app (goodIn_of _ (by decide +kernel)) ggX1_bare_J7_fill_d0a16
theorem dX1_bare_0 : decode cX1_bare 0 = .ok (.aload_n 0, 1) := by decide +kernel
theorem dX1_bare_1 : decode cX1_bare 1 = .ok (.iconst 0, 1) := by decide +kernel
theorem dX1_bare_2 : decode cX1_bare 2 = .ok (.putfield 38, 3) := by decide +kernel
theorem dX1_bare_5 : decode cX1_bare 5 = .ok (.aload_n 0, 1) := by decide +kernel
theorem dX1_bare_6 : decode cX1_bare 6 = .ok (.getfield 27, 3) := by decide +kernel
theorem dX1_bare_9 : decode cX1_bare 9 = .ok (.iconst 0, 1) := by decide +kernel
theorem dX1_bare_10 : decode cX1_bare 10 = .ok (.invokestatic 42, 3) := by decide +kernel
theorem dX1_bare_13 : decode cX1_bare 13 = .ok (.aload_n 0, 1) := by decide +kernel
theorem dX1_bare_14 : decode cX1_bare 14 = .ok (.getfield 30, 3) := by decide +kernel
theorem dX1_bare_17 : decode cX1_bare 17 = .ok (.lconst 0, 1) := by decide +kernel
theorem dX1_bare_18 : decode cX1_bare 18 = .ok (.invokestatic 48, 3) := by decide +kernel
theorem dX1_bare_21 : decode cX1_bare 21 = .ok (.return_, 1) := by decide +kernel
theorem dX1_become_0 : decode cX1_become 0 = .ok (.aload_n 0, 1) := by decide +kernel
theorem dX1_become_1 : decode cX1_become 1 = .ok (.aload_n 1, 1) := by decide +kernel
theorem dX1_become_2 : decode cX1_become 2 = .ok (.getfield 38, 3) := by decide +kernel
theorem dX1_become_5 : decode cX1_become 5 = .ok (.putfield 38, 3) := by decide +kernel
theorem dX1_become_8 : decode cX1_become 8 = .ok (.aload_n 1, 1) := by decide +kernel
theorem dX1_become_9 : decode cX1_become 9 = .ok (.getfield 9, 3) := by decide +kernel
theorem dX1_become_12 : decode cX1_become 12 = .ok (.iconst 0, 1) := by decide +kernel
theorem dX1_become_13 : decode cX1_become 13 = .ok (.aload_n 0, 1) := by decide +kernel
theorem dX1_become_14 : decode cX1_become 14 = .ok (.getfield 9, 3) := by decide +kernel
theorem dX1_become_17 : decode cX1_become 17 = .ok (.iconst 0, 1) := by decide +kernel
theorem dX1_become_18 : decode cX1_become 18 = .ok (.bipush 40, 2) := by decide +kernel
theorem dX1_become_20 : decode cX1_become 20 = .ok (.invokestatic 51, 3) := by decide +kernel
theorem dX1_become_23 : decode cX1_become 23 = .ok (.aload_n 1, 1) := by decide +kernel
theorem dX1_become_24 : decode cX1_become 24 = .ok (.getfield 15, 3) := by decide +kernel
theorem dX1_become_27 : decode cX1_become 27 = .ok (.iconst 0, 1) := by decide +kernel
theorem dX1_become_28 : decode cX1_become 28 = .ok (.aload_n 0, 1) := by decide +kernel
theorem dX1_become_29 : decode cX1_become 29 = .ok (.getfield 15, 3) := by decide +kernel
theorem dX1_become_32 : decode cX1_become 32 = .ok (.iconst 0, 1) := by decide +kernel
theorem dX1_become_33 : decode cX1_become 33 = .ok (.bipush 40, 2) := by decide +kernel
theorem dX1_become_35 : decode cX1_become 35 = .ok (.invokestatic 51, 3) := by decide +kernel
theorem dX1_become_38 : decode cX1_become 38 = .ok (.aload_n 1, 1) := by decide +kernel
theorem dX1_become_39 : decode cX1_become 39 = .ok (.getfield 18, 3) := by decide +kernel
theorem dX1_become_42 : decode cX1_become 42 = .ok (.iconst 0, 1) := by decide +kernel
theorem dX1_become_43 : decode cX1_become 43 = .ok (.aload_n 0, 1) := by decide +kernel
theorem dX1_become_44 : decode cX1_become 44 = .ok (.getfield 18, 3) := by decide +kernel
theorem dX1_become_47 : decode cX1_become 47 = .ok (.iconst 0, 1) := by decide +kernel
theorem dX1_become_48 : decode cX1_become 48 = .ok (.bipush 40, 2) := by decide +kernel
theorem dX1_become_50 : decode cX1_become 50 = .ok (.invokestatic 51, 3) := by decide +kernel
theorem dX1_become_53 : decode cX1_become 53 = .ok (.aload_n 1, 1) := by decide +kernel
theorem dX1_become_54 : decode cX1_become 54 = .ok (.getfield 21, 3) := by decide +kernel
theorem dX1_become_57 : decode cX1_become 57 = .ok (.iconst 0, 1) := by decide +kernel
theorem dX1_become_58 : decode cX1_become 58 = .ok (.aload_n 0, 1) := by decide +kernel
theorem dX1_become_59 : decode cX1_become 59 = .ok (.getfield 21, 3) := by decide +kernel
theorem dX1_become_62 : decode cX1_become 62 = .ok (.iconst 0, 1) := by decide +kernel
theorem dX1_become_63 : decode cX1_become 63 = .ok (.bipush 40, 2) := by decide +kernel
theorem dX1_become_65 : decode cX1_become 65 = .ok (.invokestatic 51, 3) := by decide +kernel
theorem dX1_become_68 : decode cX1_become 68 = .ok (.aload_n 1, 1) := by decide +kernel
theorem dX1_become_69 : decode cX1_become 69 = .ok (.getfield 24, 3) := by decide +kernel
theorem dX1_become_72 : decode cX1_become 72 = .ok (.iconst 0, 1) := by decide +kernel
theorem dX1_become_73 : decode cX1_become 73 = .ok (.aload_n 0, 1) := by decide +kernel
theorem dX1_become_74 : decode cX1_become 74 = .ok (.getfield 24, 3) := by decide +kernel
theorem dX1_become_77 : decode cX1_become 77 = .ok (.iconst 0, 1) := by decide +kernel
theorem dX1_become_78 : decode cX1_become 78 = .ok (.bipush 40, 2) := by decide +kernel
theorem dX1_become_80 : decode cX1_become 80 = .ok (.invokestatic 51, 3) := by decide +kernel
theorem dX1_become_83 : decode cX1_become 83 = .ok (.aload_n 1, 1) := by decide +kernel
theorem dX1_become_84 : decode cX1_become 84 = .ok (.getfield 27, 3) := by decide +kernel
theorem dX1_become_87 : decode cX1_become 87 = .ok (.iconst 0, 1) := by decide +kernel
theorem dX1_become_88 : decode cX1_become 88 = .ok (.aload_n 0, 1) := by decide +kernel
theorem dX1_become_89 : decode cX1_become 89 = .ok (.getfield 27, 3) := by decide +kernel
theorem dX1_become_92 : decode cX1_become 92 = .ok (.iconst 0, 1) := by decide +kernel
theorem dX1_become_93 : decode cX1_become 93 = .ok (.sipush 240, 3) := by decide +kernel
theorem dX1_become_96 : decode cX1_become 96 = .ok (.invokestatic 51, 3) := by decide +kernel
theorem dX1_become_99 : decode cX1_become 99 = .ok (.aload_n 1, 1) := by decide +kernel
theorem dX1_become_100 : decode cX1_become 100 = .ok (.getfield 30, 3) := by decide +kernel
theorem dX1_become_103 : decode cX1_become 103 = .ok (.iconst 0, 1) := by decide +kernel
theorem dX1_become_104 : decode cX1_become 104 = .ok (.aload_n 0, 1) := by decide +kernel
theorem dX1_become_105 : decode cX1_become 105 = .ok (.getfield 30, 3) := by decide +kernel
theorem dX1_become_108 : decode cX1_become 108 = .ok (.iconst 0, 1) := by decide +kernel
theorem dX1_become_109 : decode cX1_become 109 = .ok (.bipush 60, 2) := by decide +kernel
theorem dX1_become_111 : decode cX1_become 111 = .ok (.invokestatic 51, 3) := by decide +kernel
theorem dX1_become_114 : decode cX1_become 114 = .ok (.return_, 1) := by decide +kernel
set_option maxRecDepth 20000 in
theorem ggX1_add_X3_lowestRow : GoodIn wsX1_add wsX3_lowestRow := goodIn_r _ [14, 15, 16, 17, 18, 19, 20, 13, 21, 22, 33, 34, 35, 36, 37, 38, 39] (by decide +kernel) (by decide +kernel)
set_option maxRecDepth 20000 in
theorem gX1_add_X3_lowestRow : GoodIn wsX1_add (wsV RX1 57 RX3 yX3_lowestRow wsX3_lowestRow) := goodIn_app (goodIn_of _ (by decide +kernel)) ggX1_add_X3_lowestRow
set_option maxRecDepth 20000 in
theorem ggX1_add_X7_cellOf : GoodIn wsX1_add wsX7_cellOf := goodIn_r _ [17] (by decide +kernel) (by decide +kernel)
set_option maxRecDepth 20000 in
theorem gX1_add_X7_cellOf_n63 : GoodIn wsX1_add (wsX7_cellOf) := ggX1_add_X7_cellOf
theorem dX1_add_0 : decode cX1_add 0 = .ok (.aload_n 0, 1) := by decide +kernel
theorem dX1_add_1 : decode cX1_add 1 = .ok (.getfield 38, 3) := by decide +kernel
theorem dX1_add_4 : decode cX1_add 4 = .ok (.bipush 40, 2) := by decide +kernel
theorem dX1_add_6 : decode cX1_add 6 = .ok (.if_icmp .lt 6, 3) := by decide +kernel
theorem dX1_add_9 : decode cX1_add 9 = .ok (.bipush (-4), 2) := by decide +kernel
theorem dX1_add_11 : decode cX1_add 11 = .ok (.ireturn, 1) := by decide +kernel
theorem dX1_add_12 : decode cX1_add 12 = .ok (.aload_n 0, 1) := by decide +kernel
theorem dX1_add_13 : decode cX1_add 13 = .ok (.dup, 1) := by decide +kernel
theorem dX1_add_14 : decode cX1_add 14 = .ok (.getfield 38, 3) := by decide +kernel
theorem dX1_add_17 : decode cX1_add 17 = .ok (.dup_x1, 1) := by decide +kernel
theorem dX1_add_18 : decode cX1_add 18 = .ok (.iconst 1, 1) := by decide +kernel
theorem dX1_add_19 : decode cX1_add 19 = .ok (.iadd, 1) := by decide +kernel
theorem dX1_add_20 : decode cX1_add 20 = .ok (.putfield 38, 3) := by decide +kernel
theorem dX1_add_23 : decode cX1_add 23 = .ok (.istore 6, 2) := by decide +kernel
theorem dX1_add_25 : decode cX1_add 25 = .ok (.aload_n 0, 1) := by decide +kernel
theorem dX1_add_26 : decode cX1_add 26 = .ok (.getfield 9, 3) := by decide +kernel
theorem dX1_add_29 : decode cX1_add 29 = .ok (.iload 6, 2) := by decide +kernel
theorem dX1_add_31 : decode cX1_add 31 = .ok (.iload_n 1, 1) := by decide +kernel
theorem dX1_add_32 : decode cX1_add 32 = .ok (.iastore, 1) := by decide +kernel
theorem dX1_add_33 : decode cX1_add 33 = .ok (.aload_n 0, 1) := by decide +kernel
theorem dX1_add_34 : decode cX1_add 34 = .ok (.getfield 15, 3) := by decide +kernel
theorem dX1_add_37 : decode cX1_add 37 = .ok (.iload 6, 2) := by decide +kernel
theorem dX1_add_39 : decode cX1_add 39 = .ok (.iload_n 2, 1) := by decide +kernel
theorem dX1_add_40 : decode cX1_add 40 = .ok (.iastore, 1) := by decide +kernel
theorem dX1_add_41 : decode cX1_add 41 = .ok (.aload_n 0, 1) := by decide +kernel
theorem dX1_add_42 : decode cX1_add 42 = .ok (.getfield 18, 3) := by decide +kernel
theorem dX1_add_45 : decode cX1_add 45 = .ok (.iload 6, 2) := by decide +kernel
theorem dX1_add_47 : decode cX1_add 47 = .ok (.iload_n 3, 1) := by decide +kernel
theorem dX1_add_48 : decode cX1_add 48 = .ok (.iastore, 1) := by decide +kernel
theorem dX1_add_49 : decode cX1_add 49 = .ok (.aload_n 0, 1) := by decide +kernel
theorem dX1_add_50 : decode cX1_add 50 = .ok (.getfield 21, 3) := by decide +kernel
theorem dX1_add_53 : decode cX1_add 53 = .ok (.iload 6, 2) := by decide +kernel
theorem dX1_add_55 : decode cX1_add 55 = .ok (.iload 4, 2) := by decide +kernel
theorem dX1_add_57 : decode cX1_add 57 = .ok (.iastore, 1) := by decide +kernel
theorem dX1_add_58 : decode cX1_add 58 = .ok (.aload_n 0, 1) := by decide +kernel
theorem dX1_add_59 : decode cX1_add 59 = .ok (.getfield 24, 3) := by decide +kernel
theorem dX1_add_62 : decode cX1_add 62 = .ok (.iload 6, 2) := by decide +kernel
theorem dX1_add_64 : decode cX1_add 64 = .ok (.iload 5, 2) := by decide +kernel
theorem dX1_add_66 : decode cX1_add 66 = .ok (.iastore, 1) := by decide +kernel
theorem dX1_add_67 : decode cX1_add 67 = .ok (.aload_n 0, 1) := by decide +kernel
theorem dX1_add_68 : decode cX1_add 68 = .ok (.getfield 34, 3) := by decide +kernel
theorem dX1_add_71 : decode cX1_add 71 = .ok (.iload_n 1, 1) := by decide +kernel
theorem dX1_add_72 : decode cX1_add 72 = .ok (.iload_n 2, 1) := by decide +kernel
theorem dX1_add_73 : decode cX1_add 73 = .ok (.iload_n 3, 1) := by decide +kernel
theorem dX1_add_74 : decode cX1_add 74 = .ok (.invokevirtual 57, 3) := by decide +kernel
theorem dX1_add_77 : decode cX1_add 77 = .ok (.istore 7, 2) := by decide +kernel
theorem dX1_add_79 : decode cX1_add 79 = .ok (.iload 7, 2) := by decide +kernel
theorem dX1_add_81 : decode cX1_add 81 = .ok (.iload_n 2, 1) := by decide +kernel
theorem dX1_add_82 : decode cX1_add 82 = .ok (.if_icmp .gt 42, 3) := by decide +kernel
theorem dX1_add_85 : decode cX1_add 85 = .ok (.aload_n 0, 1) := by decide +kernel
theorem dX1_add_86 : decode cX1_add 86 = .ok (.getfield 27, 3) := by decide +kernel
theorem dX1_add_89 : decode cX1_add 89 = .ok (.iload 6, 2) := by decide +kernel
theorem dX1_add_91 : decode cX1_add 91 = .ok (.bipush 6, 2) := by decide +kernel
theorem dX1_add_93 : decode cX1_add 93 = .ok (.imul, 1) := by decide +kernel
theorem dX1_add_94 : decode cX1_add 94 = .ok (.iload 7, 2) := by decide +kernel
theorem dX1_add_96 : decode cX1_add 96 = .ok (.iadd, 1) := by decide +kernel
theorem dX1_add_97 : decode cX1_add 97 = .ok (.iload 5, 2) := by decide +kernel
theorem dX1_add_99 : decode cX1_add 99 = .ok (.iastore, 1) := by decide +kernel
theorem dX1_add_100 : decode cX1_add 100 = .ok (.aload_n 0, 1) := by decide +kernel
theorem dX1_add_101 : decode cX1_add 101 = .ok (.getfield 30, 3) := by decide +kernel
theorem dX1_add_104 : decode cX1_add 104 = .ok (.iload_n 1, 1) := by decide +kernel
theorem dX1_add_105 : decode cX1_add 105 = .ok (.iload 7, 2) := by decide +kernel
theorem dX1_add_107 : decode cX1_add 107 = .ok (.invokestatic 63, 3) := by decide +kernel
theorem dX1_add_110 : decode cX1_add 110 = .ok (.dup2, 1) := by decide +kernel
theorem dX1_add_111 : decode cX1_add 111 = .ok (.laload, 1) := by decide +kernel
theorem dX1_add_112 : decode cX1_add 112 = .ok (.lconst 1, 1) := by decide +kernel
theorem dX1_add_113 : decode cX1_add 113 = .ok (.iload 6, 2) := by decide +kernel
theorem dX1_add_115 : decode cX1_add 115 = .ok (.lshl, 1) := by decide +kernel
theorem dX1_add_116 : decode cX1_add 116 = .ok (.lor, 1) := by decide +kernel
theorem dX1_add_117 : decode cX1_add 117 = .ok (.lastore, 1) := by decide +kernel
theorem dX1_add_118 : decode cX1_add 118 = .ok (.iinc 7 1, 3) := by decide +kernel
theorem dX1_add_121 : decode cX1_add 121 = .ok (.goto (-42), 3) := by decide +kernel
theorem dX1_add_124 : decode cX1_add 124 = .ok (.iload 6, 2) := by decide +kernel
theorem dX1_add_126 : decode cX1_add 126 = .ok (.ireturn, 1) := by decide +kernel
set_option maxRecDepth 20000 in
theorem ggX1_addAll_X7_isIn : GoodIn wsX1_addAll wsX7_isIn := goodIn_r _ [5] (by decide +kernel) (by decide +kernel)
set_option maxRecDepth 20000 in
theorem gX1_addAll_X7_isIn_n69 : GoodIn wsX1_addAll (wsX7_isIn) := ggX1_addAll_X7_isIn
set_option maxRecDepth 20000 in
theorem ggX1_addAll_X1_add : GoodIn wsX1_addAll wsX1_add := goodIn_r _ [10, 11, 12, 13, 14, 15, 16, 1, 17, 18, 19, 20, 21, 22, 23, 24, 4, 25, 26, 27, 28, 29, 30, 31, 32, 33, 34, 35, 36, 37, 38, 39, 40, 41, 42, 43, 44, 45, 46, 47] (by decide +kernel) (by decide +kernel)
set_option maxRecDepth 20000 in
theorem gX1_addAll_X1_add : GoodIn wsX1_addAll (wsV RX1 73 RX1 yX1_add wsX1_add) := goodIn_app (goodIn_of _ (by decide +kernel)) ggX1_addAll_X1_add
theorem dX1_addAll_0 : decode cX1_addAll 0 = .ok (.iconst 0, 1) := by decide +kernel
theorem dX1_addAll_1 : decode cX1_addAll 1 = .ok (.istore 5, 2) := by decide +kernel
theorem dX1_addAll_3 : decode cX1_addAll 3 = .ok (.iload 5, 2) := by decide +kernel
theorem dX1_addAll_5 : decode cX1_addAll 5 = .ok (.aload_n 0, 1) := by decide +kernel
theorem dX1_addAll_6 : decode cX1_addAll 6 = .ok (.getfield 34, 3) := by decide +kernel
theorem dX1_addAll_9 : decode cX1_addAll 9 = .ok (.getfield 67, 3) := by decide +kernel
theorem dX1_addAll_12 : decode cX1_addAll 12 = .ok (.if_icmp .ge 31, 3) := by decide +kernel
theorem dX1_addAll_15 : decode cX1_addAll 15 = .ok (.iload_n 2, 1) := by decide +kernel
theorem dX1_addAll_16 : decode cX1_addAll 16 = .ok (.i2l, 1) := by decide +kernel
theorem dX1_addAll_17 : decode cX1_addAll 17 = .ok (.iload 5, 2) := by decide +kernel
theorem dX1_addAll_19 : decode cX1_addAll 19 = .ok (.invokestatic 69, 3) := by decide +kernel
theorem dX1_addAll_22 : decode cX1_addAll 22 = .ok (.ifCond .eq 15, 3) := by decide +kernel
theorem dX1_addAll_25 : decode cX1_addAll 25 = .ok (.aload_n 0, 1) := by decide +kernel
theorem dX1_addAll_26 : decode cX1_addAll 26 = .ok (.iload_n 1, 1) := by decide +kernel
theorem dX1_addAll_27 : decode cX1_addAll 27 = .ok (.iload 5, 2) := by decide +kernel
theorem dX1_addAll_29 : decode cX1_addAll 29 = .ok (.iload_n 3, 1) := by decide +kernel
theorem dX1_addAll_30 : decode cX1_addAll 30 = .ok (.iconst 0, 1) := by decide +kernel
theorem dX1_addAll_31 : decode cX1_addAll 31 = .ok (.iload 4, 2) := by decide +kernel
theorem dX1_addAll_33 : decode cX1_addAll 33 = .ok (.invokevirtual 73, 3) := by decide +kernel
theorem dX1_addAll_36 : decode cX1_addAll 36 = .ok (.pop, 1) := by decide +kernel
theorem dX1_addAll_37 : decode cX1_addAll 37 = .ok (.iinc 5 1, 3) := by decide +kernel
theorem dX1_addAll_40 : decode cX1_addAll 40 = .ok (.goto (-37), 3) := by decide +kernel
theorem dX1_addAll_43 : decode cX1_addAll 43 = .ok (.return_, 1) := by decide +kernel
set_option maxRecDepth 20000 in
theorem ggX1_wasLaid_X7_isWithin : GoodIn wsX1_wasLaid wsX7_isWithin := goodIn_r _ [4] (by decide +kernel) (by decide +kernel)
set_option maxRecDepth 20000 in
theorem gX1_wasLaid_X7_isWithin_n77 : GoodIn wsX1_wasLaid (wsX7_isWithin) := ggX1_wasLaid_X7_isWithin
theorem dX1_wasLaid_0 : decode cX1_wasLaid 0 = .ok (.iload_n 1, 1) := by decide +kernel
theorem dX1_wasLaid_1 : decode cX1_wasLaid 1 = .ok (.iconst 0, 1) := by decide +kernel
theorem dX1_wasLaid_2 : decode cX1_wasLaid 2 = .ok (.aload_n 0, 1) := by decide +kernel
theorem dX1_wasLaid_3 : decode cX1_wasLaid 3 = .ok (.getfield 38, 3) := by decide +kernel
theorem dX1_wasLaid_6 : decode cX1_wasLaid 6 = .ok (.iconst 1, 1) := by decide +kernel
theorem dX1_wasLaid_7 : decode cX1_wasLaid 7 = .ok (.isub, 1) := by decide +kernel
theorem dX1_wasLaid_8 : decode cX1_wasLaid 8 = .ok (.invokestatic 77, 3) := by decide +kernel
theorem dX1_wasLaid_11 : decode cX1_wasLaid 11 = .ok (.ireturn, 1) := by decide +kernel
theorem dX1_remainsOf_0 : decode cX1_remainsOf 0 = .ok (.iconst 0, 1) := by decide +kernel
theorem dX1_remainsOf_1 : decode cX1_remainsOf 1 = .ok (.istore_n 2, 1) := by decide +kernel
theorem dX1_remainsOf_2 : decode cX1_remainsOf 2 = .ok (.iconst 0, 1) := by decide +kernel
theorem dX1_remainsOf_3 : decode cX1_remainsOf 3 = .ok (.istore_n 3, 1) := by decide +kernel
theorem dX1_remainsOf_4 : decode cX1_remainsOf 4 = .ok (.iload_n 3, 1) := by decide +kernel
theorem dX1_remainsOf_5 : decode cX1_remainsOf 5 = .ok (.bipush 6, 2) := by decide +kernel
theorem dX1_remainsOf_7 : decode cX1_remainsOf 7 = .ok (.if_icmp .ge 23, 3) := by decide +kernel
theorem dX1_remainsOf_10 : decode cX1_remainsOf 10 = .ok (.iload_n 2, 1) := by decide +kernel
theorem dX1_remainsOf_11 : decode cX1_remainsOf 11 = .ok (.aload_n 0, 1) := by decide +kernel
theorem dX1_remainsOf_12 : decode cX1_remainsOf 12 = .ok (.getfield 27, 3) := by decide +kernel
theorem dX1_remainsOf_15 : decode cX1_remainsOf 15 = .ok (.iload_n 1, 1) := by decide +kernel
theorem dX1_remainsOf_16 : decode cX1_remainsOf 16 = .ok (.bipush 6, 2) := by decide +kernel
theorem dX1_remainsOf_18 : decode cX1_remainsOf 18 = .ok (.imul, 1) := by decide +kernel
theorem dX1_remainsOf_19 : decode cX1_remainsOf 19 = .ok (.iload_n 3, 1) := by decide +kernel
theorem dX1_remainsOf_20 : decode cX1_remainsOf 20 = .ok (.iadd, 1) := by decide +kernel
theorem dX1_remainsOf_21 : decode cX1_remainsOf 21 = .ok (.iaload, 1) := by decide +kernel
theorem dX1_remainsOf_22 : decode cX1_remainsOf 22 = .ok (.iadd, 1) := by decide +kernel
theorem dX1_remainsOf_23 : decode cX1_remainsOf 23 = .ok (.istore_n 2, 1) := by decide +kernel
theorem dX1_remainsOf_24 : decode cX1_remainsOf 24 = .ok (.iinc 3 1, 3) := by decide +kernel
theorem dX1_remainsOf_27 : decode cX1_remainsOf 27 = .ok (.goto (-23), 3) := by decide +kernel
theorem dX1_remainsOf_30 : decode cX1_remainsOf 30 = .ok (.iload_n 2, 1) := by decide +kernel
theorem dX1_remainsOf_31 : decode cX1_remainsOf 31 = .ok (.ireturn, 1) := by decide +kernel
set_option maxRecDepth 20000 in
theorem ggX1_countRemaining_X1_remainsOf : GoodIn wsX1_countRemaining wsX1_remainsOf := goodIn_r _ [6, 7, 8, 9, 10, 11, 12, 13, 14, 15, 16, 17] (by decide +kernel) (by decide +kernel)
set_option maxRecDepth 20000 in
theorem gX1_countRemaining_X1_remainsOf : GoodIn wsX1_countRemaining (wsV RX1 81 RX1 yX1_remainsOf wsX1_remainsOf) := goodIn_app (goodIn_of _ (by decide +kernel)) ggX1_countRemaining_X1_remainsOf
theorem dX1_countRemaining_0 : decode cX1_countRemaining 0 = .ok (.iconst 0, 1) := by decide +kernel
theorem dX1_countRemaining_1 : decode cX1_countRemaining 1 = .ok (.istore_n 1, 1) := by decide +kernel
theorem dX1_countRemaining_2 : decode cX1_countRemaining 2 = .ok (.iconst 0, 1) := by decide +kernel
theorem dX1_countRemaining_3 : decode cX1_countRemaining 3 = .ok (.istore_n 2, 1) := by decide +kernel
theorem dX1_countRemaining_4 : decode cX1_countRemaining 4 = .ok (.iload_n 2, 1) := by decide +kernel
theorem dX1_countRemaining_5 : decode cX1_countRemaining 5 = .ok (.aload_n 0, 1) := by decide +kernel
theorem dX1_countRemaining_6 : decode cX1_countRemaining 6 = .ok (.getfield 38, 3) := by decide +kernel
theorem dX1_countRemaining_9 : decode cX1_countRemaining 9 = .ok (.if_icmp .ge 20, 3) := by decide +kernel
theorem dX1_countRemaining_12 : decode cX1_countRemaining 12 = .ok (.aload_n 0, 1) := by decide +kernel
theorem dX1_countRemaining_13 : decode cX1_countRemaining 13 = .ok (.iload_n 2, 1) := by decide +kernel
theorem dX1_countRemaining_14 : decode cX1_countRemaining 14 = .ok (.invokevirtual 81, 3) := by decide +kernel
theorem dX1_countRemaining_17 : decode cX1_countRemaining 17 = .ok (.ifCond .le 6, 3) := by decide +kernel
theorem dX1_countRemaining_20 : decode cX1_countRemaining 20 = .ok (.iinc 1 1, 3) := by decide +kernel
theorem dX1_countRemaining_23 : decode cX1_countRemaining 23 = .ok (.iinc 2 1, 3) := by decide +kernel
theorem dX1_countRemaining_26 : decode cX1_countRemaining 26 = .ok (.goto (-22), 3) := by decide +kernel
theorem dX1_countRemaining_29 : decode cX1_countRemaining 29 = .ok (.iload_n 1, 1) := by decide +kernel
theorem dX1_countRemaining_30 : decode cX1_countRemaining 30 = .ok (.ireturn, 1) := by decide +kernel
set_option maxRecDepth 20000 in
theorem ggX1_thicknessAt_X7_isIn : GoodIn wsX1_thicknessAt wsX7_isIn := goodIn_r _ [6] (by decide +kernel) (by decide +kernel)
set_option maxRecDepth 20000 in
theorem gX1_thicknessAt_X7_isIn_n69 : GoodIn wsX1_thicknessAt (wsX7_isIn) := ggX1_thicknessAt_X7_isIn
set_option maxRecDepth 20000 in
theorem ggX1_thicknessAt_X7_rowOf : GoodIn wsX1_thicknessAt wsX7_rowOf := goodIn_r _ [8] (by decide +kernel) (by decide +kernel)
set_option maxRecDepth 20000 in
theorem gX1_thicknessAt_X7_rowOf_n85 : GoodIn wsX1_thicknessAt (wsX7_rowOf) := ggX1_thicknessAt_X7_rowOf
theorem dX1_thicknessAt_0 : decode cX1_thicknessAt 0 = .ok (.iconst 0, 1) := by decide +kernel
theorem dX1_thicknessAt_1 : decode cX1_thicknessAt 1 = .ok (.istore_n 2, 1) := by decide +kernel
theorem dX1_thicknessAt_2 : decode cX1_thicknessAt 2 = .ok (.iconst 0, 1) := by decide +kernel
theorem dX1_thicknessAt_3 : decode cX1_thicknessAt 3 = .ok (.istore_n 3, 1) := by decide +kernel
theorem dX1_thicknessAt_4 : decode cX1_thicknessAt 4 = .ok (.iload_n 3, 1) := by decide +kernel
theorem dX1_thicknessAt_5 : decode cX1_thicknessAt 5 = .ok (.aload_n 0, 1) := by decide +kernel
theorem dX1_thicknessAt_6 : decode cX1_thicknessAt 6 = .ok (.getfield 38, 3) := by decide +kernel
theorem dX1_thicknessAt_9 : decode cX1_thicknessAt 9 = .ok (.if_icmp .ge 39, 3) := by decide +kernel
theorem dX1_thicknessAt_12 : decode cX1_thicknessAt 12 = .ok (.aload_n 0, 1) := by decide +kernel
theorem dX1_thicknessAt_13 : decode cX1_thicknessAt 13 = .ok (.getfield 30, 3) := by decide +kernel
theorem dX1_thicknessAt_16 : decode cX1_thicknessAt 16 = .ok (.iload_n 1, 1) := by decide +kernel
theorem dX1_thicknessAt_17 : decode cX1_thicknessAt 17 = .ok (.laload, 1) := by decide +kernel
theorem dX1_thicknessAt_18 : decode cX1_thicknessAt 18 = .ok (.iload_n 3, 1) := by decide +kernel
theorem dX1_thicknessAt_19 : decode cX1_thicknessAt 19 = .ok (.invokestatic 69, 3) := by decide +kernel
theorem dX1_thicknessAt_22 : decode cX1_thicknessAt 22 = .ok (.ifCond .eq 20, 3) := by decide +kernel
theorem dX1_thicknessAt_25 : decode cX1_thicknessAt 25 = .ok (.iload_n 2, 1) := by decide +kernel
theorem dX1_thicknessAt_26 : decode cX1_thicknessAt 26 = .ok (.aload_n 0, 1) := by decide +kernel
theorem dX1_thicknessAt_27 : decode cX1_thicknessAt 27 = .ok (.getfield 27, 3) := by decide +kernel
theorem dX1_thicknessAt_30 : decode cX1_thicknessAt 30 = .ok (.iload_n 3, 1) := by decide +kernel
theorem dX1_thicknessAt_31 : decode cX1_thicknessAt 31 = .ok (.bipush 6, 2) := by decide +kernel
theorem dX1_thicknessAt_33 : decode cX1_thicknessAt 33 = .ok (.imul, 1) := by decide +kernel
theorem dX1_thicknessAt_34 : decode cX1_thicknessAt 34 = .ok (.iload_n 1, 1) := by decide +kernel
theorem dX1_thicknessAt_35 : decode cX1_thicknessAt 35 = .ok (.invokestatic 85, 3) := by decide +kernel
theorem dX1_thicknessAt_38 : decode cX1_thicknessAt 38 = .ok (.iadd, 1) := by decide +kernel
theorem dX1_thicknessAt_39 : decode cX1_thicknessAt 39 = .ok (.iaload, 1) := by decide +kernel
theorem dX1_thicknessAt_40 : decode cX1_thicknessAt 40 = .ok (.iadd, 1) := by decide +kernel
theorem dX1_thicknessAt_41 : decode cX1_thicknessAt 41 = .ok (.istore_n 2, 1) := by decide +kernel
theorem dX1_thicknessAt_42 : decode cX1_thicknessAt 42 = .ok (.iinc 3 1, 3) := by decide +kernel
theorem dX1_thicknessAt_45 : decode cX1_thicknessAt 45 = .ok (.goto (-41), 3) := by decide +kernel
theorem dX1_thicknessAt_48 : decode cX1_thicknessAt 48 = .ok (.iload_n 2, 1) := by decide +kernel
theorem dX1_thicknessAt_49 : decode cX1_thicknessAt 49 = .ok (.ireturn, 1) := by decide +kernel
set_option maxRecDepth 20000 in
theorem ggX1_weigh_X7_cellOf : GoodIn wsX1_weigh wsX7_cellOf := goodIn_r _ [5] (by decide +kernel) (by decide +kernel)
set_option maxRecDepth 20000 in
theorem gX1_weigh_X7_cellOf_n63 : GoodIn wsX1_weigh (wsX7_cellOf) := ggX1_weigh_X7_cellOf
set_option maxRecDepth 20000 in
theorem ggX1_weigh_X1_thicknessAt : GoodIn wsX1_weigh wsX1_thicknessAt := goodIn_r _ [10, 11, 12, 13, 14, 4, 15, 16, 17, 18, 19, 20, 21, 22, 23, 24, 25, 26, 27] (by decide +kernel) (by decide +kernel)
set_option maxRecDepth 20000 in
theorem gX1_weigh_X1_thicknessAt : GoodIn wsX1_weigh (wsV RX1 88 RX1 yX1_thicknessAt wsX1_thicknessAt) := goodIn_app (goodIn_of _ (by decide +kernel)) ggX1_weigh_X1_thicknessAt
theorem dX1_weigh_0 : decode cX1_weigh 0 = .ok (.iconst 0, 1) := by decide +kernel
theorem dX1_weigh_1 : decode cX1_weigh 1 = .ok (.istore_n 2, 1) := by decide +kernel
theorem dX1_weigh_2 : decode cX1_weigh 2 = .ok (.iconst 0, 1) := by decide +kernel
theorem dX1_weigh_3 : decode cX1_weigh 3 = .ok (.istore_n 3, 1) := by decide +kernel
theorem dX1_weigh_4 : decode cX1_weigh 4 = .ok (.iload_n 3, 1) := by decide +kernel
theorem dX1_weigh_5 : decode cX1_weigh 5 = .ok (.aload_n 0, 1) := by decide +kernel
theorem dX1_weigh_6 : decode cX1_weigh 6 = .ok (.getfield 34, 3) := by decide +kernel
theorem dX1_weigh_9 : decode cX1_weigh 9 = .ok (.getfield 67, 3) := by decide +kernel
theorem dX1_weigh_12 : decode cX1_weigh 12 = .ok (.if_icmp .ge 21, 3) := by decide +kernel
theorem dX1_weigh_15 : decode cX1_weigh 15 = .ok (.iload_n 2, 1) := by decide +kernel
theorem dX1_weigh_16 : decode cX1_weigh 16 = .ok (.aload_n 0, 1) := by decide +kernel
theorem dX1_weigh_17 : decode cX1_weigh 17 = .ok (.iload_n 1, 1) := by decide +kernel
theorem dX1_weigh_18 : decode cX1_weigh 18 = .ok (.iload_n 3, 1) := by decide +kernel
theorem dX1_weigh_19 : decode cX1_weigh 19 = .ok (.invokestatic 63, 3) := by decide +kernel
theorem dX1_weigh_22 : decode cX1_weigh 22 = .ok (.invokevirtual 88, 3) := by decide +kernel
theorem dX1_weigh_25 : decode cX1_weigh 25 = .ok (.iadd, 1) := by decide +kernel
theorem dX1_weigh_26 : decode cX1_weigh 26 = .ok (.istore_n 2, 1) := by decide +kernel
theorem dX1_weigh_27 : decode cX1_weigh 27 = .ok (.iinc 3 1, 3) := by decide +kernel
theorem dX1_weigh_30 : decode cX1_weigh 30 = .ok (.goto (-26), 3) := by decide +kernel
theorem dX1_weigh_33 : decode cX1_weigh 33 = .ok (.iload_n 2, 1) := by decide +kernel
theorem dX1_weigh_34 : decode cX1_weigh 34 = .ok (.ireturn, 1) := by decide +kernel
set_option maxRecDepth 20000 in
theorem ggX1_inColumn_X7_cellOf : GoodIn wsX1_inColumn wsX7_cellOf := goodIn_r _ [6] (by decide +kernel) (by decide +kernel)
set_option maxRecDepth 20000 in
theorem gX1_inColumn_X7_cellOf_n63 : GoodIn wsX1_inColumn (wsX7_cellOf) := ggX1_inColumn_X7_cellOf
theorem dX1_inColumn_0 : decode cX1_inColumn 0 = .ok (.lconst 0, 1) := by decide +kernel
theorem dX1_inColumn_1 : decode cX1_inColumn 1 = .ok (.lstore_n 2, 1) := by decide +kernel
theorem dX1_inColumn_2 : decode cX1_inColumn 2 = .ok (.iconst 0, 1) := by decide +kernel
theorem dX1_inColumn_3 : decode cX1_inColumn 3 = .ok (.istore 4, 2) := by decide +kernel
theorem dX1_inColumn_5 : decode cX1_inColumn 5 = .ok (.iload 4, 2) := by decide +kernel
theorem dX1_inColumn_7 : decode cX1_inColumn 7 = .ok (.aload_n 0, 1) := by decide +kernel
theorem dX1_inColumn_8 : decode cX1_inColumn 8 = .ok (.getfield 34, 3) := by decide +kernel
theorem dX1_inColumn_11 : decode cX1_inColumn 11 = .ok (.getfield 67, 3) := by decide +kernel
theorem dX1_inColumn_14 : decode cX1_inColumn 14 = .ok (.if_icmp .ge 23, 3) := by decide +kernel
theorem dX1_inColumn_17 : decode cX1_inColumn 17 = .ok (.lload_n 2, 1) := by decide +kernel
theorem dX1_inColumn_18 : decode cX1_inColumn 18 = .ok (.aload_n 0, 1) := by decide +kernel
theorem dX1_inColumn_19 : decode cX1_inColumn 19 = .ok (.getfield 30, 3) := by decide +kernel
theorem dX1_inColumn_22 : decode cX1_inColumn 22 = .ok (.iload_n 1, 1) := by decide +kernel
theorem dX1_inColumn_23 : decode cX1_inColumn 23 = .ok (.iload 4, 2) := by decide +kernel
theorem dX1_inColumn_25 : decode cX1_inColumn 25 = .ok (.invokestatic 63, 3) := by decide +kernel
theorem dX1_inColumn_28 : decode cX1_inColumn 28 = .ok (.laload, 1) := by decide +kernel
theorem dX1_inColumn_29 : decode cX1_inColumn 29 = .ok (.lor, 1) := by decide +kernel
theorem dX1_inColumn_30 : decode cX1_inColumn 30 = .ok (.lstore_n 2, 1) := by decide +kernel
theorem dX1_inColumn_31 : decode cX1_inColumn 31 = .ok (.iinc 4 1, 3) := by decide +kernel
theorem dX1_inColumn_34 : decode cX1_inColumn 34 = .ok (.goto (-29), 3) := by decide +kernel
theorem dX1_inColumn_37 : decode cX1_inColumn 37 = .ok (.lload_n 2, 1) := by decide +kernel
theorem dX1_inColumn_38 : decode cX1_inColumn 38 = .ok (.lreturn, 1) := by decide +kernel
theorem dX1_strawCells_0 : decode cX1_strawCells 0 = .ok (.lconst 0, 1) := by decide +kernel
theorem dX1_strawCells_1 : decode cX1_strawCells 1 = .ok (.lstore_n 1, 1) := by decide +kernel
theorem dX1_strawCells_2 : decode cX1_strawCells 2 = .ok (.iconst 0, 1) := by decide +kernel
theorem dX1_strawCells_3 : decode cX1_strawCells 3 = .ok (.istore_n 3, 1) := by decide +kernel
theorem dX1_strawCells_4 : decode cX1_strawCells 4 = .ok (.iload_n 3, 1) := by decide +kernel
theorem dX1_strawCells_5 : decode cX1_strawCells 5 = .ok (.aload_n 0, 1) := by decide +kernel
theorem dX1_strawCells_6 : decode cX1_strawCells 6 = .ok (.getfield 34, 3) := by decide +kernel
theorem dX1_strawCells_9 : decode cX1_strawCells 9 = .ok (.getfield 91, 3) := by decide +kernel
theorem dX1_strawCells_12 : decode cX1_strawCells 12 = .ok (.if_icmp .ge 42, 3) := by decide +kernel
theorem dX1_strawCells_15 : decode cX1_strawCells 15 = .ok (.aload_n 0, 1) := by decide +kernel
theorem dX1_strawCells_16 : decode cX1_strawCells 16 = .ok (.getfield 30, 3) := by decide +kernel
theorem dX1_strawCells_19 : decode cX1_strawCells 19 = .ok (.aload_n 0, 1) := by decide +kernel
theorem dX1_strawCells_20 : decode cX1_strawCells 20 = .ok (.getfield 34, 3) := by decide +kernel
theorem dX1_strawCells_23 : decode cX1_strawCells 23 = .ok (.getfield 94, 3) := by decide +kernel
theorem dX1_strawCells_26 : decode cX1_strawCells 26 = .ok (.iload_n 3, 1) := by decide +kernel
theorem dX1_strawCells_27 : decode cX1_strawCells 27 = .ok (.iaload, 1) := by decide +kernel
theorem dX1_strawCells_28 : decode cX1_strawCells 28 = .ok (.laload, 1) := by decide +kernel
theorem dX1_strawCells_29 : decode cX1_strawCells 29 = .ok (.lconst 0, 1) := by decide +kernel
theorem dX1_strawCells_30 : decode cX1_strawCells 30 = .ok (.lcmp, 1) := by decide +kernel
theorem dX1_strawCells_31 : decode cX1_strawCells 31 = .ok (.ifCond .eq 17, 3) := by decide +kernel
theorem dX1_strawCells_34 : decode cX1_strawCells 34 = .ok (.lload_n 1, 1) := by decide +kernel
theorem dX1_strawCells_35 : decode cX1_strawCells 35 = .ok (.lconst 1, 1) := by decide +kernel
theorem dX1_strawCells_36 : decode cX1_strawCells 36 = .ok (.aload_n 0, 1) := by decide +kernel
theorem dX1_strawCells_37 : decode cX1_strawCells 37 = .ok (.getfield 34, 3) := by decide +kernel
theorem dX1_strawCells_40 : decode cX1_strawCells 40 = .ok (.getfield 94, 3) := by decide +kernel
theorem dX1_strawCells_43 : decode cX1_strawCells 43 = .ok (.iload_n 3, 1) := by decide +kernel
theorem dX1_strawCells_44 : decode cX1_strawCells 44 = .ok (.iaload, 1) := by decide +kernel
theorem dX1_strawCells_45 : decode cX1_strawCells 45 = .ok (.lshl, 1) := by decide +kernel
theorem dX1_strawCells_46 : decode cX1_strawCells 46 = .ok (.lor, 1) := by decide +kernel
theorem dX1_strawCells_47 : decode cX1_strawCells 47 = .ok (.lstore_n 1, 1) := by decide +kernel
theorem dX1_strawCells_48 : decode cX1_strawCells 48 = .ok (.iinc 3 1, 3) := by decide +kernel
theorem dX1_strawCells_51 : decode cX1_strawCells 51 = .ok (.goto (-47), 3) := by decide +kernel
theorem dX1_strawCells_54 : decode cX1_strawCells 54 = .ok (.lload_n 1, 1) := by decide +kernel
theorem dX1_strawCells_55 : decode cX1_strawCells 55 = .ok (.lreturn, 1) := by decide +kernel
set_option maxRecDepth 20000 in
theorem ggX1_lieOnOpening_X3_isOpening : GoodIn wsX1_lieOnOpening wsX3_isOpening := goodIn_r _ [9, 10, 21, 22, 23, 24, 25, 26, 27] (by decide +kernel) (by decide +kernel)
set_option maxRecDepth 20000 in
theorem gX1_lieOnOpening_X3_isOpening : GoodIn wsX1_lieOnOpening (wsV RX1 97 RX3 yX3_isOpening wsX3_isOpening) := goodIn_app (goodIn_of _ (by decide +kernel)) ggX1_lieOnOpening_X3_isOpening
theorem dX1_lieOnOpening_0 : decode cX1_lieOnOpening 0 = .ok (.iconst 0, 1) := by decide +kernel
theorem dX1_lieOnOpening_1 : decode cX1_lieOnOpening 1 = .ok (.istore_n 1, 1) := by decide +kernel
theorem dX1_lieOnOpening_2 : decode cX1_lieOnOpening 2 = .ok (.iload_n 1, 1) := by decide +kernel
theorem dX1_lieOnOpening_3 : decode cX1_lieOnOpening 3 = .ok (.aload_n 0, 1) := by decide +kernel
theorem dX1_lieOnOpening_4 : decode cX1_lieOnOpening 4 = .ok (.getfield 34, 3) := by decide +kernel
theorem dX1_lieOnOpening_7 : decode cX1_lieOnOpening 7 = .ok (.getfield 91, 3) := by decide +kernel
theorem dX1_lieOnOpening_10 : decode cX1_lieOnOpening 10 = .ok (.if_icmp .ge 49, 3) := by decide +kernel
theorem dX1_lieOnOpening_13 : decode cX1_lieOnOpening 13 = .ok (.aload_n 0, 1) := by decide +kernel
theorem dX1_lieOnOpening_14 : decode cX1_lieOnOpening 14 = .ok (.getfield 30, 3) := by decide +kernel
theorem dX1_lieOnOpening_17 : decode cX1_lieOnOpening 17 = .ok (.aload_n 0, 1) := by decide +kernel
theorem dX1_lieOnOpening_18 : decode cX1_lieOnOpening 18 = .ok (.getfield 34, 3) := by decide +kernel
theorem dX1_lieOnOpening_21 : decode cX1_lieOnOpening 21 = .ok (.getfield 94, 3) := by decide +kernel
theorem dX1_lieOnOpening_24 : decode cX1_lieOnOpening 24 = .ok (.iload_n 1, 1) := by decide +kernel
theorem dX1_lieOnOpening_25 : decode cX1_lieOnOpening 25 = .ok (.iaload, 1) := by decide +kernel
theorem dX1_lieOnOpening_26 : decode cX1_lieOnOpening 26 = .ok (.laload, 1) := by decide +kernel
theorem dX1_lieOnOpening_27 : decode cX1_lieOnOpening 27 = .ok (.lconst 0, 1) := by decide +kernel
theorem dX1_lieOnOpening_28 : decode cX1_lieOnOpening 28 = .ok (.lcmp, 1) := by decide +kernel
theorem dX1_lieOnOpening_29 : decode cX1_lieOnOpening 29 = .ok (.ifCond .eq 24, 3) := by decide +kernel
theorem dX1_lieOnOpening_32 : decode cX1_lieOnOpening 32 = .ok (.aload_n 0, 1) := by decide +kernel
theorem dX1_lieOnOpening_33 : decode cX1_lieOnOpening 33 = .ok (.getfield 34, 3) := by decide +kernel
theorem dX1_lieOnOpening_36 : decode cX1_lieOnOpening 36 = .ok (.aload_n 0, 1) := by decide +kernel
theorem dX1_lieOnOpening_37 : decode cX1_lieOnOpening 37 = .ok (.getfield 34, 3) := by decide +kernel
theorem dX1_lieOnOpening_40 : decode cX1_lieOnOpening 40 = .ok (.getfield 94, 3) := by decide +kernel
theorem dX1_lieOnOpening_43 : decode cX1_lieOnOpening 43 = .ok (.iload_n 1, 1) := by decide +kernel
theorem dX1_lieOnOpening_44 : decode cX1_lieOnOpening 44 = .ok (.iaload, 1) := by decide +kernel
theorem dX1_lieOnOpening_45 : decode cX1_lieOnOpening 45 = .ok (.invokevirtual 97, 3) := by decide +kernel
theorem dX1_lieOnOpening_48 : decode cX1_lieOnOpening 48 = .ok (.ifCond .eq 5, 3) := by decide +kernel
theorem dX1_lieOnOpening_51 : decode cX1_lieOnOpening 51 = .ok (.iconst 1, 1) := by decide +kernel
theorem dX1_lieOnOpening_52 : decode cX1_lieOnOpening 52 = .ok (.ireturn, 1) := by decide +kernel
theorem dX1_lieOnOpening_53 : decode cX1_lieOnOpening 53 = .ok (.iinc 1 1, 3) := by decide +kernel
theorem dX1_lieOnOpening_56 : decode cX1_lieOnOpening 56 = .ok (.goto (-54), 3) := by decide +kernel
theorem dX1_lieOnOpening_59 : decode cX1_lieOnOpening 59 = .ok (.iconst 0, 1) := by decide +kernel
theorem dX1_lieOnOpening_60 : decode cX1_lieOnOpening 60 = .ok (.ireturn, 1) := by decide +kernel
set_option maxRecDepth 20000 in
theorem ggX1_liesOver_X7_cellOf : GoodIn wsX1_liesOver wsX7_cellOf := goodIn_r _ [7] (by decide +kernel) (by decide +kernel)
set_option maxRecDepth 20000 in
theorem gX1_liesOver_X7_cellOf_n63 : GoodIn wsX1_liesOver (wsX7_cellOf) := ggX1_liesOver_X7_cellOf
theorem dX1_liesOver_0 : decode cX1_liesOver 0 = .ok (.iload_n 1, 1) := by decide +kernel
theorem dX1_liesOver_1 : decode cX1_liesOver 1 = .ok (.iload_n 2, 1) := by decide +kernel
theorem dX1_liesOver_2 : decode cX1_liesOver 2 = .ok (.if_icmp .gt 5, 3) := by decide +kernel
theorem dX1_liesOver_5 : decode cX1_liesOver 5 = .ok (.iconst 0, 1) := by decide +kernel
theorem dX1_liesOver_6 : decode cX1_liesOver 6 = .ok (.ireturn, 1) := by decide +kernel
theorem dX1_liesOver_7 : decode cX1_liesOver 7 = .ok (.lconst 1, 1) := by decide +kernel
theorem dX1_liesOver_8 : decode cX1_liesOver 8 = .ok (.iload_n 1, 1) := by decide +kernel
theorem dX1_liesOver_9 : decode cX1_liesOver 9 = .ok (.lshl, 1) := by decide +kernel
theorem dX1_liesOver_10 : decode cX1_liesOver 10 = .ok (.lconst 1, 1) := by decide +kernel
theorem dX1_liesOver_11 : decode cX1_liesOver 11 = .ok (.iload_n 2, 1) := by decide +kernel
theorem dX1_liesOver_12 : decode cX1_liesOver 12 = .ok (.lshl, 1) := by decide +kernel
theorem dX1_liesOver_13 : decode cX1_liesOver 13 = .ok (.lor, 1) := by decide +kernel
theorem dX1_liesOver_14 : decode cX1_liesOver 14 = .ok (.lstore_n 3, 1) := by decide +kernel
theorem dX1_liesOver_15 : decode cX1_liesOver 15 = .ok (.iconst 0, 1) := by decide +kernel
theorem dX1_liesOver_16 : decode cX1_liesOver 16 = .ok (.istore 5, 2) := by decide +kernel
theorem dX1_liesOver_18 : decode cX1_liesOver 18 = .ok (.iload 5, 2) := by decide +kernel
theorem dX1_liesOver_20 : decode cX1_liesOver 20 = .ok (.aload_n 0, 1) := by decide +kernel
theorem dX1_liesOver_21 : decode cX1_liesOver 21 = .ok (.getfield 34, 3) := by decide +kernel
theorem dX1_liesOver_24 : decode cX1_liesOver 24 = .ok (.getfield 67, 3) := by decide +kernel
theorem dX1_liesOver_27 : decode cX1_liesOver 27 = .ok (.if_icmp .ge 34, 3) := by decide +kernel
theorem dX1_liesOver_30 : decode cX1_liesOver 30 = .ok (.aload_n 0, 1) := by decide +kernel
theorem dX1_liesOver_31 : decode cX1_liesOver 31 = .ok (.getfield 30, 3) := by decide +kernel
theorem dX1_liesOver_34 : decode cX1_liesOver 34 = .ok (.aload_n 0, 1) := by decide +kernel
theorem dX1_liesOver_35 : decode cX1_liesOver 35 = .ok (.getfield 9, 3) := by decide +kernel
theorem dX1_liesOver_38 : decode cX1_liesOver 38 = .ok (.iload_n 1, 1) := by decide +kernel
theorem dX1_liesOver_39 : decode cX1_liesOver 39 = .ok (.iaload, 1) := by decide +kernel
theorem dX1_liesOver_40 : decode cX1_liesOver 40 = .ok (.iload 5, 2) := by decide +kernel
theorem dX1_liesOver_42 : decode cX1_liesOver 42 = .ok (.invokestatic 63, 3) := by decide +kernel
theorem dX1_liesOver_45 : decode cX1_liesOver 45 = .ok (.laload, 1) := by decide +kernel
theorem dX1_liesOver_46 : decode cX1_liesOver 46 = .ok (.lload_n 3, 1) := by decide +kernel
theorem dX1_liesOver_47 : decode cX1_liesOver 47 = .ok (.land, 1) := by decide +kernel
theorem dX1_liesOver_48 : decode cX1_liesOver 48 = .ok (.lload_n 3, 1) := by decide +kernel
theorem dX1_liesOver_49 : decode cX1_liesOver 49 = .ok (.lcmp, 1) := by decide +kernel
theorem dX1_liesOver_50 : decode cX1_liesOver 50 = .ok (.ifCond .ne 5, 3) := by decide +kernel
theorem dX1_liesOver_53 : decode cX1_liesOver 53 = .ok (.iconst 1, 1) := by decide +kernel
theorem dX1_liesOver_54 : decode cX1_liesOver 54 = .ok (.ireturn, 1) := by decide +kernel
theorem dX1_liesOver_55 : decode cX1_liesOver 55 = .ok (.iinc 5 1, 3) := by decide +kernel
theorem dX1_liesOver_58 : decode cX1_liesOver 58 = .ok (.goto (-40), 3) := by decide +kernel
theorem dX1_liesOver_61 : decode cX1_liesOver 61 = .ok (.iconst 0, 1) := by decide +kernel
theorem dX1_liesOver_62 : decode cX1_liesOver 62 = .ok (.ireturn, 1) := by decide +kernel
set_option maxRecDepth 20000 in
theorem ggX1_removeGreatest_X1_inColumn : GoodIn wsX1_removeGreatest wsX1_inColumn := goodIn_r _ [7, 1, 2, 8, 9, 10, 11, 34, 35, 36, 37, 38, 39, 40, 41, 42, 43, 44, 45, 46, 47, 48, 49, 50] (by decide +kernel) (by decide +kernel)
set_option maxRecDepth 20000 in
theorem gX1_removeGreatest_X1_inColumn : GoodIn wsX1_removeGreatest (wsV RX1 101 RX1 yX1_inColumn wsX1_inColumn) := goodIn_app (goodIn_of _ (by decide +kernel)) ggX1_removeGreatest_X1_inColumn
set_option maxRecDepth 20000 in
theorem ggX1_removeGreatest_X7_greatest : GoodIn wsX1_removeGreatest wsX7_greatest := goodIn_r _ [13, 14, 15, 16, 17, 18, 19, 20] (by decide +kernel) (by decide +kernel)
set_option maxRecDepth 20000 in
theorem gX1_removeGreatest_X7_greatest_n105 : GoodIn wsX1_removeGreatest (wsX7_greatest) := ggX1_removeGreatest_X7_greatest
set_option maxRecDepth 20000 in
theorem ggX1_removeGreatest_X7_cellOf : GoodIn wsX1_removeGreatest wsX7_cellOf := goodIn_r _ [11] (by decide +kernel) (by decide +kernel)
set_option maxRecDepth 20000 in
theorem gX1_removeGreatest_X7_cellOf_n63 : GoodIn wsX1_removeGreatest (wsX7_cellOf) := ggX1_removeGreatest_X7_cellOf
set_option maxRecDepth 20000 in
theorem ggX1_removeGreatest_X1_lose : GoodIn wsX1_removeGreatest wsX1_lose := goodIn_r _ [24, 25, 26, 27, 28, 29, 8, 30, 31, 32, 10, 33, 34, 35, 36, 37, 38, 39, 40, 41, 42, 43] (by decide +kernel) (by decide +kernel)
set_option maxRecDepth 20000 in
theorem gX1_removeGreatest_X1_lose : GoodIn wsX1_removeGreatest (wsV RX1 109 RX1 yX1_lose wsX1_lose) := goodIn_app (goodIn_of _ (by decide +kernel)) ggX1_removeGreatest_X1_lose
theorem dX1_removeGreatest_0 : decode cX1_removeGreatest 0 = .ok (.iconst 0, 1) := by decide +kernel
theorem dX1_removeGreatest_1 : decode cX1_removeGreatest 1 = .ok (.istore_n 3, 1) := by decide +kernel
theorem dX1_removeGreatest_2 : decode cX1_removeGreatest 2 = .ok (.iload_n 3, 1) := by decide +kernel
theorem dX1_removeGreatest_3 : decode cX1_removeGreatest 3 = .ok (.iload_n 2, 1) := by decide +kernel
theorem dX1_removeGreatest_4 : decode cX1_removeGreatest 4 = .ok (.if_icmp .ge 64, 3) := by decide +kernel
theorem dX1_removeGreatest_7 : decode cX1_removeGreatest 7 = .ok (.aload_n 0, 1) := by decide +kernel
theorem dX1_removeGreatest_8 : decode cX1_removeGreatest 8 = .ok (.iload_n 1, 1) := by decide +kernel
theorem dX1_removeGreatest_9 : decode cX1_removeGreatest 9 = .ok (.invokevirtual 101, 3) := by decide +kernel
theorem dX1_removeGreatest_12 : decode cX1_removeGreatest 12 = .ok (.invokestatic 105, 3) := by decide +kernel
theorem dX1_removeGreatest_15 : decode cX1_removeGreatest 15 = .ok (.istore 4, 2) := by decide +kernel
theorem dX1_removeGreatest_17 : decode cX1_removeGreatest 17 = .ok (.iload 4, 2) := by decide +kernel
theorem dX1_removeGreatest_19 : decode cX1_removeGreatest 19 = .ok (.bipush (-9), 2) := by decide +kernel
theorem dX1_removeGreatest_21 : decode cX1_removeGreatest 21 = .ok (.if_icmp .ne 5, 3) := by decide +kernel
theorem dX1_removeGreatest_24 : decode cX1_removeGreatest 24 = .ok (.iload_n 3, 1) := by decide +kernel
theorem dX1_removeGreatest_25 : decode cX1_removeGreatest 25 = .ok (.ireturn, 1) := by decide +kernel
theorem dX1_removeGreatest_26 : decode cX1_removeGreatest 26 = .ok (.iconst 0, 1) := by decide +kernel
theorem dX1_removeGreatest_27 : decode cX1_removeGreatest 27 = .ok (.istore 5, 2) := by decide +kernel
theorem dX1_removeGreatest_29 : decode cX1_removeGreatest 29 = .ok (.iload 5, 2) := by decide +kernel
theorem dX1_removeGreatest_31 : decode cX1_removeGreatest 31 = .ok (.aload_n 0, 1) := by decide +kernel
theorem dX1_removeGreatest_32 : decode cX1_removeGreatest 32 = .ok (.getfield 34, 3) := by decide +kernel
theorem dX1_removeGreatest_35 : decode cX1_removeGreatest 35 = .ok (.getfield 67, 3) := by decide +kernel
theorem dX1_removeGreatest_38 : decode cX1_removeGreatest 38 = .ok (.if_icmp .ge 24, 3) := by decide +kernel
theorem dX1_removeGreatest_41 : decode cX1_removeGreatest 41 = .ok (.aload_n 0, 1) := by decide +kernel
theorem dX1_removeGreatest_42 : decode cX1_removeGreatest 42 = .ok (.iload 4, 2) := by decide +kernel
theorem dX1_removeGreatest_44 : decode cX1_removeGreatest 44 = .ok (.iload_n 1, 1) := by decide +kernel
theorem dX1_removeGreatest_45 : decode cX1_removeGreatest 45 = .ok (.iload 5, 2) := by decide +kernel
theorem dX1_removeGreatest_47 : decode cX1_removeGreatest 47 = .ok (.invokestatic 63, 3) := by decide +kernel
theorem dX1_removeGreatest_50 : decode cX1_removeGreatest 50 = .ok (.bipush 9, 2) := by decide +kernel
theorem dX1_removeGreatest_52 : decode cX1_removeGreatest 52 = .ok (.invokevirtual 109, 3) := by decide +kernel
theorem dX1_removeGreatest_55 : decode cX1_removeGreatest 55 = .ok (.pop, 1) := by decide +kernel
theorem dX1_removeGreatest_56 : decode cX1_removeGreatest 56 = .ok (.iinc 5 1, 3) := by decide +kernel
theorem dX1_removeGreatest_59 : decode cX1_removeGreatest 59 = .ok (.goto (-30), 3) := by decide +kernel
theorem dX1_removeGreatest_62 : decode cX1_removeGreatest 62 = .ok (.iinc 3 1, 3) := by decide +kernel
theorem dX1_removeGreatest_65 : decode cX1_removeGreatest 65 = .ok (.goto (-63), 3) := by decide +kernel
theorem dX1_removeGreatest_68 : decode cX1_removeGreatest 68 = .ok (.iload_n 2, 1) := by decide +kernel
theorem dX1_removeGreatest_69 : decode cX1_removeGreatest 69 = .ok (.ireturn, 1) := by decide +kernel
set_option maxRecDepth 20000 in
theorem ggX1_tooMany_X1_weigh : GoodIn wsX1_tooMany wsX1_weigh := goodIn_r _ [6, 7, 8, 9, 10, 11, 12, 13, 14, 5, 15, 1, 16, 17, 18, 19, 20, 21, 30, 31, 32, 33, 34, 35, 36, 37, 38, 39, 40, 41, 42, 43, 44, 45, 46] (by decide +kernel) (by decide +kernel)
set_option maxRecDepth 20000 in
theorem gX1_tooMany_X1_weigh : GoodIn wsX1_tooMany (wsV RX1 112 RX1 yX1_weigh wsX1_weigh) := goodIn_app (goodIn_of _ (by decide +kernel)) ggX1_tooMany_X1_weigh
set_option maxRecDepth 20000 in
theorem ggX1_tooMany_X1_inColumn : GoodIn wsX1_tooMany wsX1_inColumn := goodIn_r _ [25, 7, 8, 16, 9, 10, 11, 30, 31, 32, 33, 34, 35, 36, 37, 38, 39, 40, 41, 42, 43, 44, 45, 46] (by decide +kernel) (by decide +kernel)
set_option maxRecDepth 20000 in
theorem gX1_tooMany_X1_inColumn : GoodIn wsX1_tooMany (wsV RX1 101 RX1 yX1_inColumn wsX1_inColumn) := goodIn_app (goodIn_of _ (by decide +kernel)) ggX1_tooMany_X1_inColumn
set_option maxRecDepth 20000 in
theorem ggX1_tooMany_X7_isIn : GoodIn wsX1_tooMany wsX7_isIn := goodIn_r _ [19] (by decide +kernel) (by decide +kernel)
set_option maxRecDepth 20000 in
theorem gX1_tooMany_X7_isIn_n69 : GoodIn wsX1_tooMany (wsX7_isIn) := ggX1_tooMany_X7_isIn
set_option maxRecDepth 20000 in
theorem ggX1_tooMany_X1_remainsOf : GoodIn wsX1_tooMany wsX1_remainsOf := goodIn_r _ [29, 17, 30, 31, 32, 33, 34, 35, 36, 37, 38, 39] (by decide +kernel) (by decide +kernel)
set_option maxRecDepth 20000 in
theorem gX1_tooMany_X1_remainsOf : GoodIn wsX1_tooMany (wsV RX1 81 RX1 yX1_remainsOf wsX1_remainsOf) := goodIn_app (goodIn_of _ (by decide +kernel)) ggX1_tooMany_X1_remainsOf
theorem dX1_tooMany_0 : decode cX1_tooMany 0 = .ok (.aload_n 0, 1) := by decide +kernel
theorem dX1_tooMany_1 : decode cX1_tooMany 1 = .ok (.iload_n 1, 1) := by decide +kernel
theorem dX1_tooMany_2 : decode cX1_tooMany 2 = .ok (.invokevirtual 112, 3) := by decide +kernel
theorem dX1_tooMany_5 : decode cX1_tooMany 5 = .ok (.istore_n 3, 1) := by decide +kernel
theorem dX1_tooMany_6 : decode cX1_tooMany 6 = .ok (.aload_n 0, 1) := by decide +kernel
theorem dX1_tooMany_7 : decode cX1_tooMany 7 = .ok (.iload_n 1, 1) := by decide +kernel
theorem dX1_tooMany_8 : decode cX1_tooMany 8 = .ok (.invokevirtual 101, 3) := by decide +kernel
theorem dX1_tooMany_11 : decode cX1_tooMany 11 = .ok (.lstore 4, 2) := by decide +kernel
theorem dX1_tooMany_13 : decode cX1_tooMany 13 = .ok (.iconst 0, 1) := by decide +kernel
theorem dX1_tooMany_14 : decode cX1_tooMany 14 = .ok (.istore 6, 2) := by decide +kernel
theorem dX1_tooMany_16 : decode cX1_tooMany 16 = .ok (.aload_n 0, 1) := by decide +kernel
theorem dX1_tooMany_17 : decode cX1_tooMany 17 = .ok (.getfield 38, 3) := by decide +kernel
theorem dX1_tooMany_20 : decode cX1_tooMany 20 = .ok (.iconst 1, 1) := by decide +kernel
theorem dX1_tooMany_21 : decode cX1_tooMany 21 = .ok (.isub, 1) := by decide +kernel
theorem dX1_tooMany_22 : decode cX1_tooMany 22 = .ok (.istore 7, 2) := by decide +kernel
theorem dX1_tooMany_24 : decode cX1_tooMany 24 = .ok (.iload 7, 2) := by decide +kernel
theorem dX1_tooMany_26 : decode cX1_tooMany 26 = .ok (.ifCond .lt 36, 3) := by decide +kernel
theorem dX1_tooMany_29 : decode cX1_tooMany 29 = .ok (.iload_n 3, 1) := by decide +kernel
theorem dX1_tooMany_30 : decode cX1_tooMany 30 = .ok (.iload_n 2, 1) := by decide +kernel
theorem dX1_tooMany_31 : decode cX1_tooMany 31 = .ok (.if_icmp .le 31, 3) := by decide +kernel
theorem dX1_tooMany_34 : decode cX1_tooMany 34 = .ok (.lload 4, 2) := by decide +kernel
theorem dX1_tooMany_36 : decode cX1_tooMany 36 = .ok (.iload 7, 2) := by decide +kernel
theorem dX1_tooMany_38 : decode cX1_tooMany 38 = .ok (.invokestatic 69, 3) := by decide +kernel
theorem dX1_tooMany_41 : decode cX1_tooMany 41 = .ok (.ifCond .eq 15, 3) := by decide +kernel
theorem dX1_tooMany_44 : decode cX1_tooMany 44 = .ok (.iload_n 3, 1) := by decide +kernel
theorem dX1_tooMany_45 : decode cX1_tooMany 45 = .ok (.aload_n 0, 1) := by decide +kernel
theorem dX1_tooMany_46 : decode cX1_tooMany 46 = .ok (.iload 7, 2) := by decide +kernel
theorem dX1_tooMany_48 : decode cX1_tooMany 48 = .ok (.invokevirtual 81, 3) := by decide +kernel
theorem dX1_tooMany_51 : decode cX1_tooMany 51 = .ok (.isub, 1) := by decide +kernel
theorem dX1_tooMany_52 : decode cX1_tooMany 52 = .ok (.istore_n 3, 1) := by decide +kernel
theorem dX1_tooMany_53 : decode cX1_tooMany 53 = .ok (.iinc 6 1, 3) := by decide +kernel
theorem dX1_tooMany_56 : decode cX1_tooMany 56 = .ok (.iinc 7 (-1), 3) := by decide +kernel
theorem dX1_tooMany_59 : decode cX1_tooMany 59 = .ok (.goto (-35), 3) := by decide +kernel
theorem dX1_tooMany_62 : decode cX1_tooMany 62 = .ok (.iload 6, 2) := by decide +kernel
theorem dX1_tooMany_64 : decode cX1_tooMany 64 = .ok (.ireturn, 1) := by decide +kernel
set_option maxRecDepth 20000 in
theorem ggX1_weather_X7_greatest : GoodIn wsX1_weather wsX7_greatest := goodIn_r _ [8, 9, 10, 11, 12, 13, 14, 15] (by decide +kernel) (by decide +kernel)
set_option maxRecDepth 20000 in
theorem gX1_weather_X7_greatest_n105 : GoodIn wsX1_weather (wsX7_greatest) := ggX1_weather_X7_greatest
set_option maxRecDepth 20000 in
theorem ggX1_weather_X1_lose : GoodIn wsX1_weather wsX1_lose := goodIn_r _ [20, 21, 22, 23, 24, 25, 4, 26, 27, 28, 7, 29, 30, 31, 32, 33, 34, 35, 36, 37, 38, 39] (by decide +kernel) (by decide +kernel)
set_option maxRecDepth 20000 in
theorem gX1_weather_X1_lose : GoodIn wsX1_weather (wsV RX1 109 RX1 yX1_lose wsX1_lose) := goodIn_app (goodIn_of _ (by decide +kernel)) ggX1_weather_X1_lose
theorem dX1_weather_0 : decode cX1_weather 0 = .ok (.iconst 0, 1) := by decide +kernel
theorem dX1_weather_1 : decode cX1_weather 1 = .ok (.istore_n 1, 1) := by decide +kernel
theorem dX1_weather_2 : decode cX1_weather 2 = .ok (.iconst 0, 1) := by decide +kernel
theorem dX1_weather_3 : decode cX1_weather 3 = .ok (.istore_n 2, 1) := by decide +kernel
theorem dX1_weather_4 : decode cX1_weather 4 = .ok (.iload_n 2, 1) := by decide +kernel
theorem dX1_weather_5 : decode cX1_weather 5 = .ok (.aload_n 0, 1) := by decide +kernel
theorem dX1_weather_6 : decode cX1_weather 6 = .ok (.getfield 34, 3) := by decide +kernel
theorem dX1_weather_9 : decode cX1_weather 9 = .ok (.getfield 91, 3) := by decide +kernel
theorem dX1_weather_12 : decode cX1_weather 12 = .ok (.if_icmp .ge 56, 3) := by decide +kernel
theorem dX1_weather_15 : decode cX1_weather 15 = .ok (.aload_n 0, 1) := by decide +kernel
theorem dX1_weather_16 : decode cX1_weather 16 = .ok (.getfield 34, 3) := by decide +kernel
theorem dX1_weather_19 : decode cX1_weather 19 = .ok (.getfield 94, 3) := by decide +kernel
theorem dX1_weather_22 : decode cX1_weather 22 = .ok (.iload_n 2, 1) := by decide +kernel
theorem dX1_weather_23 : decode cX1_weather 23 = .ok (.iaload, 1) := by decide +kernel
theorem dX1_weather_24 : decode cX1_weather 24 = .ok (.istore_n 3, 1) := by decide +kernel
theorem dX1_weather_25 : decode cX1_weather 25 = .ok (.aload_n 0, 1) := by decide +kernel
theorem dX1_weather_26 : decode cX1_weather 26 = .ok (.getfield 30, 3) := by decide +kernel
theorem dX1_weather_29 : decode cX1_weather 29 = .ok (.iload_n 3, 1) := by decide +kernel
theorem dX1_weather_30 : decode cX1_weather 30 = .ok (.laload, 1) := by decide +kernel
theorem dX1_weather_31 : decode cX1_weather 31 = .ok (.invokestatic 105, 3) := by decide +kernel
theorem dX1_weather_34 : decode cX1_weather 34 = .ok (.istore 4, 2) := by decide +kernel
theorem dX1_weather_36 : decode cX1_weather 36 = .ok (.iload 4, 2) := by decide +kernel
theorem dX1_weather_38 : decode cX1_weather 38 = .ok (.bipush (-9), 2) := by decide +kernel
theorem dX1_weather_40 : decode cX1_weather 40 = .ok (.if_icmp .eq 22, 3) := by decide +kernel
theorem dX1_weather_43 : decode cX1_weather 43 = .ok (.iload_n 1, 1) := by decide +kernel
theorem dX1_weather_44 : decode cX1_weather 44 = .ok (.aload_n 0, 1) := by decide +kernel
theorem dX1_weather_45 : decode cX1_weather 45 = .ok (.iload 4, 2) := by decide +kernel
theorem dX1_weather_47 : decode cX1_weather 47 = .ok (.iload_n 3, 1) := by decide +kernel
theorem dX1_weather_48 : decode cX1_weather 48 = .ok (.aload_n 0, 1) := by decide +kernel
theorem dX1_weather_49 : decode cX1_weather 49 = .ok (.getfield 34, 3) := by decide +kernel
theorem dX1_weather_52 : decode cX1_weather 52 = .ok (.getfield 115, 3) := by decide +kernel
theorem dX1_weather_55 : decode cX1_weather 55 = .ok (.iload_n 3, 1) := by decide +kernel
theorem dX1_weather_56 : decode cX1_weather 56 = .ok (.iaload, 1) := by decide +kernel
theorem dX1_weather_57 : decode cX1_weather 57 = .ok (.invokevirtual 109, 3) := by decide +kernel
theorem dX1_weather_60 : decode cX1_weather 60 = .ok (.iadd, 1) := by decide +kernel
theorem dX1_weather_61 : decode cX1_weather 61 = .ok (.istore_n 1, 1) := by decide +kernel
theorem dX1_weather_62 : decode cX1_weather 62 = .ok (.iinc 2 1, 3) := by decide +kernel
theorem dX1_weather_65 : decode cX1_weather 65 = .ok (.goto (-61), 3) := by decide +kernel
theorem dX1_weather_68 : decode cX1_weather 68 = .ok (.iload_n 1, 1) := by decide +kernel
theorem dX1_weather_69 : decode cX1_weather 69 = .ok (.ireturn, 1) := by decide +kernel
set_option maxRecDepth 20000 in
theorem ggX1_lose_X7_rowOf : GoodIn wsX1_lose wsX7_rowOf := goodIn_r _ [11] (by decide +kernel) (by decide +kernel)
set_option maxRecDepth 20000 in
theorem gX1_lose_X7_rowOf_n85 : GoodIn wsX1_lose (wsX7_rowOf) := ggX1_lose_X7_rowOf
theorem dX1_lose_0 : decode cX1_lose 0 = .ok (.iload_n 1, 1) := by decide +kernel
theorem dX1_lose_1 : decode cX1_lose 1 = .ok (.bipush 6, 2) := by decide +kernel
theorem dX1_lose_3 : decode cX1_lose 3 = .ok (.imul, 1) := by decide +kernel
theorem dX1_lose_4 : decode cX1_lose 4 = .ok (.iload_n 2, 1) := by decide +kernel
theorem dX1_lose_5 : decode cX1_lose 5 = .ok (.invokestatic 85, 3) := by decide +kernel
theorem dX1_lose_8 : decode cX1_lose 8 = .ok (.iadd, 1) := by decide +kernel
theorem dX1_lose_9 : decode cX1_lose 9 = .ok (.istore 4, 2) := by decide +kernel
theorem dX1_lose_11 : decode cX1_lose 11 = .ok (.iload_n 3, 1) := by decide +kernel
theorem dX1_lose_12 : decode cX1_lose 12 = .ok (.aload_n 0, 1) := by decide +kernel
theorem dX1_lose_13 : decode cX1_lose 13 = .ok (.getfield 27, 3) := by decide +kernel
theorem dX1_lose_16 : decode cX1_lose 16 = .ok (.iload 4, 2) := by decide +kernel
theorem dX1_lose_18 : decode cX1_lose 18 = .ok (.iaload, 1) := by decide +kernel
theorem dX1_lose_19 : decode cX1_lose 19 = .ok (.invokestatic 118, 3) := by decide +kernel
theorem dX1_lose_22 : decode cX1_lose 22 = .ok (.istore 5, 2) := by decide +kernel
theorem dX1_lose_24 : decode cX1_lose 24 = .ok (.aload_n 0, 1) := by decide +kernel
theorem dX1_lose_25 : decode cX1_lose 25 = .ok (.getfield 27, 3) := by decide +kernel
theorem dX1_lose_28 : decode cX1_lose 28 = .ok (.iload 4, 2) := by decide +kernel
theorem dX1_lose_30 : decode cX1_lose 30 = .ok (.dup2, 1) := by decide +kernel
theorem dX1_lose_31 : decode cX1_lose 31 = .ok (.iaload, 1) := by decide +kernel
theorem dX1_lose_32 : decode cX1_lose 32 = .ok (.iload 5, 2) := by decide +kernel
theorem dX1_lose_34 : decode cX1_lose 34 = .ok (.isub, 1) := by decide +kernel
theorem dX1_lose_35 : decode cX1_lose 35 = .ok (.iastore, 1) := by decide +kernel
theorem dX1_lose_36 : decode cX1_lose 36 = .ok (.iload 5, 2) := by decide +kernel
theorem dX1_lose_38 : decode cX1_lose 38 = .ok (.ifCond .le 39, 3) := by decide +kernel
theorem dX1_lose_41 : decode cX1_lose 41 = .ok (.aload_n 0, 1) := by decide +kernel
theorem dX1_lose_42 : decode cX1_lose 42 = .ok (.getfield 27, 3) := by decide +kernel
theorem dX1_lose_45 : decode cX1_lose 45 = .ok (.iload 4, 2) := by decide +kernel
theorem dX1_lose_47 : decode cX1_lose 47 = .ok (.iaload, 1) := by decide +kernel
theorem dX1_lose_48 : decode cX1_lose 48 = .ok (.ifCond .ne 29, 3) := by decide +kernel
theorem dX1_lose_51 : decode cX1_lose 51 = .ok (.aload_n 0, 1) := by decide +kernel
theorem dX1_lose_52 : decode cX1_lose 52 = .ok (.getfield 30, 3) := by decide +kernel
theorem dX1_lose_55 : decode cX1_lose 55 = .ok (.iload_n 2, 1) := by decide +kernel
theorem dX1_lose_56 : decode cX1_lose 56 = .ok (.dup2, 1) := by decide +kernel
theorem dX1_lose_57 : decode cX1_lose 57 = .ok (.laload, 1) := by decide +kernel
theorem dX1_lose_58 : decode cX1_lose 58 = .ok (.lconst 1, 1) := by decide +kernel
theorem dX1_lose_59 : decode cX1_lose 59 = .ok (.iload_n 1, 1) := by decide +kernel
theorem dX1_lose_60 : decode cX1_lose 60 = .ok (.lshl, 1) := by decide +kernel
theorem dX1_lose_61 : decode cX1_lose 61 = .ok (.ldc2_w 123, 3) := by decide +kernel
theorem dX1_lose_64 : decode cX1_lose 64 = .ok (.lxor, 1) := by decide +kernel
theorem dX1_lose_65 : decode cX1_lose 65 = .ok (.land, 1) := by decide +kernel
theorem dX1_lose_66 : decode cX1_lose 66 = .ok (.lastore, 1) := by decide +kernel
theorem dX1_lose_67 : decode cX1_lose 67 = .ok (.aload_n 0, 1) := by decide +kernel
theorem dX1_lose_68 : decode cX1_lose 68 = .ok (.dup, 1) := by decide +kernel
theorem dX1_lose_69 : decode cX1_lose 69 = .ok (.getfield 125, 3) := by decide +kernel
theorem dX1_lose_72 : decode cX1_lose 72 = .ok (.iconst 1, 1) := by decide +kernel
theorem dX1_lose_73 : decode cX1_lose 73 = .ok (.iadd, 1) := by decide +kernel
theorem dX1_lose_74 : decode cX1_lose 74 = .ok (.putfield 125, 3) := by decide +kernel
theorem dX1_lose_77 : decode cX1_lose 77 = .ok (.iload 5, 2) := by decide +kernel
theorem dX1_lose_79 : decode cX1_lose 79 = .ok (.ireturn, 1) := by decide +kernel
