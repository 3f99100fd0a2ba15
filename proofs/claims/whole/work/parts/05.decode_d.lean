theorem dX8_in_0 : decode cX8_in 0 = .ok (.lload_n 0, 1) := by decide +kernel
theorem dX8_in_1 : decode cX8_in 1 = .ok (.lload_n 2, 1) := by decide +kernel
theorem dX8_in_2 : decode cX8_in 2 = .ok (.lcmp, 1) := by decide +kernel
theorem dX8_in_3 : decode cX8_in 3 = .ok (.ifCond .lt 14, 3) := by decide +kernel
theorem dX8_in_6 : decode cX8_in 6 = .ok (.lload_n 0, 1) := by decide +kernel
theorem dX8_in_7 : decode cX8_in 7 = .ok (.lload 4, 2) := by decide +kernel
theorem dX8_in_9 : decode cX8_in 9 = .ok (.lcmp, 1) := by decide +kernel
theorem dX8_in_10 : decode cX8_in 10 = .ok (.ifCond .gt 7, 3) := by decide +kernel
theorem dX8_in_13 : decode cX8_in 13 = .ok (.iconst 1, 1) := by decide +kernel
theorem dX8_in_14 : decode cX8_in 14 = .ok (.goto 4, 3) := by decide +kernel
theorem dX8_in_17 : decode cX8_in 17 = .ok (.iconst 0, 1) := by decide +kernel
theorem dX8_in_18 : decode cX8_in 18 = .ok (.ireturn, 1) := by decide +kernel
theorem dX8_init_0 : decode cX8_init 0 = .ok (.aload_n 0, 1) := by decide +kernel
theorem dX8_init_1 : decode cX8_init 1 = .ok (.invokespecial 1, 3) := by decide +kernel
theorem dX8_init_4 : decode cX8_init 4 = .ok (.aload_n 0, 1) := by decide +kernel
theorem dX8_init_5 : decode cX8_init 5 = .ok (.bipush 8, 2) := by decide +kernel
theorem dX8_init_7 : decode cX8_init 7 = .ok (.newarray .int, 2) := by decide +kernel
theorem dX8_init_9 : decode cX8_init 9 = .ok (.putfield 7, 3) := by decide +kernel
theorem dX8_init_12 : decode cX8_init 12 = .ok (.aload_n 0, 1) := by decide +kernel
theorem dX8_init_13 : decode cX8_init 13 = .ok (.bipush 8, 2) := by decide +kernel
theorem dX8_init_15 : decode cX8_init 15 = .ok (.newarray .int, 2) := by decide +kernel
theorem dX8_init_17 : decode cX8_init 17 = .ok (.putfield 13, 3) := by decide +kernel
theorem dX8_init_20 : decode cX8_init 20 = .ok (.aload_n 0, 1) := by decide +kernel
theorem dX8_init_21 : decode cX8_init 21 = .ok (.sipush 320, 3) := by decide +kernel
theorem dX8_init_24 : decode cX8_init 24 = .ok (.newarray .int, 2) := by decide +kernel
theorem dX8_init_26 : decode cX8_init 26 = .ok (.putfield 16, 3) := by decide +kernel
theorem dX8_init_29 : decode cX8_init 29 = .ok (.aload_n 0, 1) := by decide +kernel
theorem dX8_init_30 : decode cX8_init 30 = .ok (.bipush 40, 2) := by decide +kernel
theorem dX8_init_32 : decode cX8_init 32 = .ok (.newarray .int, 2) := by decide +kernel
theorem dX8_init_34 : decode cX8_init 34 = .ok (.putfield 19, 3) := by decide +kernel
theorem dX8_init_37 : decode cX8_init 37 = .ok (.aload_n 0, 1) := by decide +kernel
theorem dX8_init_38 : decode cX8_init 38 = .ok (.bipush 38, 2) := by decide +kernel
theorem dX8_init_40 : decode cX8_init 40 = .ok (.newarray .int, 2) := by decide +kernel
theorem dX8_init_42 : decode cX8_init 42 = .ok (.putfield 22, 3) := by decide +kernel
theorem dX8_init_45 : decode cX8_init 45 = .ok (.aload_n 0, 1) := by decide +kernel
theorem dX8_init_46 : decode cX8_init 46 = .ok (.bipush 38, 2) := by decide +kernel
theorem dX8_init_48 : decode cX8_init 48 = .ok (.newarray .int, 2) := by decide +kernel
theorem dX8_init_50 : decode cX8_init 50 = .ok (.putfield 25, 3) := by decide +kernel
theorem dX8_init_53 : decode cX8_init 53 = .ok (.aload_n 0, 1) := by decide +kernel
theorem dX8_init_54 : decode cX8_init 54 = .ok (.bipush 100, 2) := by decide +kernel
theorem dX8_init_56 : decode cX8_init 56 = .ok (.newarray .int, 2) := by decide +kernel
theorem dX8_init_58 : decode cX8_init 58 = .ok (.putfield 28, 3) := by decide +kernel
theorem dX8_init_61 : decode cX8_init 61 = .ok (.aload_n 0, 1) := by decide +kernel
theorem dX8_init_62 : decode cX8_init 62 = .ok (.sipush 696, 3) := by decide +kernel
theorem dX8_init_65 : decode cX8_init 65 = .ok (.newarray .int, 2) := by decide +kernel
theorem dX8_init_67 : decode cX8_init 67 = .ok (.putfield 31, 3) := by decide +kernel
theorem dX8_init_70 : decode cX8_init 70 = .ok (.aload_n 0, 1) := by decide +kernel
theorem dX8_init_71 : decode cX8_init 71 = .ok (.sipush 2640, 3) := by decide +kernel
theorem dX8_init_74 : decode cX8_init 74 = .ok (.newarray .int, 2) := by decide +kernel
theorem dX8_init_76 : decode cX8_init 76 = .ok (.putfield 34, 3) := by decide +kernel
theorem dX8_init_79 : decode cX8_init 79 = .ok (.aload_n 0, 1) := by decide +kernel
theorem dX8_init_80 : decode cX8_init 80 = .ok (.sipush 2640, 3) := by decide +kernel
theorem dX8_init_83 : decode cX8_init 83 = .ok (.newarray .boolean, 2) := by decide +kernel
theorem dX8_init_85 : decode cX8_init 85 = .ok (.putfield 37, 3) := by decide +kernel
theorem dX8_init_88 : decode cX8_init 88 = .ok (.aload_n 0, 1) := by decide +kernel
theorem dX8_init_89 : decode cX8_init 89 = .ok (.bipush 88, 2) := by decide +kernel
theorem dX8_init_91 : decode cX8_init 91 = .ok (.newarray .int, 2) := by decide +kernel
theorem dX8_init_93 : decode cX8_init 93 = .ok (.putfield 41, 3) := by decide +kernel
theorem dX8_init_96 : decode cX8_init 96 = .ok (.aload_n 0, 1) := by decide +kernel
theorem dX8_init_97 : decode cX8_init 97 = .ok (.bipush 16, 2) := by decide +kernel
theorem dX8_init_99 : decode cX8_init 99 = .ok (.newarray .int, 2) := by decide +kernel
theorem dX8_init_101 : decode cX8_init 101 = .ok (.putfield 44, 3) := by decide +kernel
theorem dX8_init_104 : decode cX8_init 104 = .ok (.iconst 0, 1) := by decide +kernel
theorem dX8_init_105 : decode cX8_init 105 = .ok (.istore_n 1, 1) := by decide +kernel
theorem dX8_init_106 : decode cX8_init 106 = .ok (.iload_n 1, 1) := by decide +kernel
theorem dX8_init_107 : decode cX8_init 107 = .ok (.bipush 8, 2) := by decide +kernel
theorem dX8_init_109 : decode cX8_init 109 = .ok (.if_icmp .ge 16, 3) := by decide +kernel
theorem dX8_init_112 : decode cX8_init 112 = .ok (.aload_n 0, 1) := by decide +kernel
theorem dX8_init_113 : decode cX8_init 113 = .ok (.getfield 7, 3) := by decide +kernel
theorem dX8_init_116 : decode cX8_init 116 = .ok (.iload_n 1, 1) := by decide +kernel
theorem dX8_init_117 : decode cX8_init 117 = .ok (.iconst (-1), 1) := by decide +kernel
theorem dX8_init_118 : decode cX8_init 118 = .ok (.iastore, 1) := by decide +kernel
theorem dX8_init_119 : decode cX8_init 119 = .ok (.iinc 1 1, 3) := by decide +kernel
theorem dX8_init_122 : decode cX8_init 122 = .ok (.goto (-16), 3) := by decide +kernel
theorem dX8_init_125 : decode cX8_init 125 = .ok (.return_, 1) := by decide +kernel
theorem dX8_finds_0 : decode cX8_finds 0 = .ok (.aload_n 0, 1) := by decide +kernel
theorem dX8_finds_1 : decode cX8_finds 1 = .ok (.iload_n 1, 1) := by decide +kernel
theorem dX8_finds_2 : decode cX8_finds 2 = .ok (.putfield 47, 3) := by decide +kernel
theorem dX8_finds_5 : decode cX8_finds 5 = .ok (.ldc 51, 2) := by decide +kernel
theorem dX8_finds_7 : decode cX8_finds 7 = .ok (.iload_n 1, 1) := by decide +kernel
theorem dX8_finds_8 : decode cX8_finds 8 = .ok (.isub, 1) := by decide +kernel
theorem dX8_finds_9 : decode cX8_finds 9 = .ok (.ireturn, 1) := by decide +kernel
theorem dX8_well_0 : decode cX8_well 0 = .ok (.aload_n 0, 1) := by decide +kernel
theorem dX8_well_1 : decode cX8_well 1 = .ok (.iconst 0, 1) := by decide +kernel
theorem dX8_well_2 : decode cX8_well 2 = .ok (.putfield 47, 3) := by decide +kernel
theorem dX8_well_5 : decode cX8_well 5 = .ok (.iload_n 1, 1) := by decide +kernel
theorem dX8_well_6 : decode cX8_well 6 = .ok (.ireturn, 1) := by decide +kernel
set_option maxRecDepth 20000 in
theorem ggX8_isRow_X8_in : GoodIn wsX8_isRow wsX8_in := goodIn_r _ [5] (by decide +kernel) (by decide +kernel)
set_option maxRecDepth 20000 in
theorem gX8_isRow_X8_in : GoodIn wsX8_isRow (va_wsS RX8 54 yX8_in wsX8_in) := goodIn_app (goodIn_of _ (by decide +kernel)) ggX8_isRow_X8_in
theorem dX8_isRow_0 : decode cX8_isRow 0 = .ok (.iload_n 0, 1) := by decide +kernel
theorem dX8_isRow_1 : decode cX8_isRow 1 = .ok (.i2l, 1) := by decide +kernel
theorem dX8_isRow_2 : decode cX8_isRow 2 = .ok (.lconst 0, 1) := by decide +kernel
theorem dX8_isRow_3 : decode cX8_isRow 3 = .ok (.ldc2_w 52, 3) := by decide +kernel
theorem dX8_isRow_6 : decode cX8_isRow 6 = .ok (.invokestatic 54, 3) := by decide +kernel
theorem dX8_isRow_9 : decode cX8_isRow 9 = .ok (.ireturn, 1) := by decide +kernel
set_option maxRecDepth 20000 in
theorem ggX8_row_X8_isRow : GoodIn wsX8_row wsX8_isRow := goodIn_r _ [9, 10, 11, 12, 8, 13] (by decide +kernel) (by decide +kernel)
set_option maxRecDepth 20000 in
theorem gX8_row_X8_isRow : GoodIn wsX8_row (va_wsS RX8 58 yX8_isRow wsX8_isRow) := goodIn_app (goodIn_of _ (by decide +kernel)) ggX8_row_X8_isRow
set_option maxRecDepth 20000 in
theorem ggX8_row_X8_in : GoodIn wsX8_row wsX8_in := goodIn_r _ [13] (by decide +kernel) (by decide +kernel)
set_option maxRecDepth 20000 in
theorem gX8_row_X8_in : GoodIn wsX8_row (va_wsS RX8 54 yX8_in wsX8_in) := goodIn_app (goodIn_of _ (by decide +kernel)) ggX8_row_X8_in
set_option maxRecDepth 20000 in
theorem ggX8_row_X8_finds : GoodIn wsX8_row wsX8_finds := goodIn_r _ [17, 18, 19, 24, 25, 26, 27, 28, 29, 30, 31, 32, 33, 34, 35, 36, 37, 38, 39, 40, 41, 42, 43, 44, 45, 46, 47, 48, 49, 50, 51, 52, 53, 54, 55, 56] (by decide +kernel) (by decide +kernel)
set_option maxRecDepth 20000 in
theorem gX8_row_X8_finds : GoodIn wsX8_row (wsV RX8 65 RX8 yX8_finds wsX8_finds) := goodIn_app (goodIn_of _ (by decide +kernel)) ggX8_row_X8_finds
set_option maxRecDepth 20000 in
theorem ggX8_row_X8_well : GoodIn wsX8_row wsX8_well := goodIn_r _ [23, 18, 24, 25, 26, 27, 28, 29, 30, 31, 32, 33, 34, 35, 36, 37, 38, 39, 40, 41, 42, 43, 44, 45, 46, 47, 48, 49, 50, 51, 52, 53, 54, 55, 56] (by decide +kernel) (by decide +kernel)
set_option maxRecDepth 20000 in
theorem gX8_row_X8_well : GoodIn wsX8_row (wsV RX8 69 RX8 yX8_well wsX8_well) := goodIn_app (goodIn_of _ (by decide +kernel)) ggX8_row_X8_well
theorem dX8_row_0 : decode cX8_row 0 = .ok (.iload_n 1, 1) := by decide +kernel
theorem dX8_row_1 : decode cX8_row 1 = .ok (.invokestatic 58, 3) := by decide +kernel
theorem dX8_row_4 : decode cX8_row 4 = .ok (.ifCond .eq 21, 3) := by decide +kernel
theorem dX8_row_7 : decode cX8_row 7 = .ok (.iload_n 2, 1) := by decide +kernel
theorem dX8_row_8 : decode cX8_row 8 = .ok (.i2l, 1) := by decide +kernel
theorem dX8_row_9 : decode cX8_row 9 = .ok (.lconst 0, 1) := by decide +kernel
theorem dX8_row_10 : decode cX8_row 10 = .ok (.ldc2_w 62, 3) := by decide +kernel
theorem dX8_row_13 : decode cX8_row 13 = .ok (.invokestatic 54, 3) := by decide +kernel
theorem dX8_row_16 : decode cX8_row 16 = .ok (.ifCond .eq 9, 3) := by decide +kernel
theorem dX8_row_19 : decode cX8_row 19 = .ok (.iload_n 3, 1) := by decide +kernel
theorem dX8_row_20 : decode cX8_row 20 = .ok (.bipush 40, 2) := by decide +kernel
theorem dX8_row_22 : decode cX8_row 22 = .ok (.if_icmp .le 6, 3) := by decide +kernel
theorem dX8_row_25 : decode cX8_row 25 = .ok (.ldc 64, 2) := by decide +kernel
theorem dX8_row_27 : decode cX8_row 27 = .ok (.ireturn, 1) := by decide +kernel
theorem dX8_row_28 : decode cX8_row 28 = .ok (.iload_n 3, 1) := by decide +kernel
theorem dX8_row_29 : decode cX8_row 29 = .ok (.ifCond .ge 9, 3) := by decide +kernel
theorem dX8_row_32 : decode cX8_row 32 = .ok (.aload_n 0, 1) := by decide +kernel
theorem dX8_row_33 : decode cX8_row 33 = .ok (.iconst 4, 1) := by decide +kernel
theorem dX8_row_34 : decode cX8_row 34 = .ok (.invokevirtual 65, 3) := by decide +kernel
theorem dX8_row_37 : decode cX8_row 37 = .ok (.ireturn, 1) := by decide +kernel
theorem dX8_row_38 : decode cX8_row 38 = .ok (.aload_n 0, 1) := by decide +kernel
theorem dX8_row_39 : decode cX8_row 39 = .ok (.getfield 7, 3) := by decide +kernel
theorem dX8_row_42 : decode cX8_row 42 = .ok (.iload_n 1, 1) := by decide +kernel
theorem dX8_row_43 : decode cX8_row 43 = .ok (.iload_n 2, 1) := by decide +kernel
theorem dX8_row_44 : decode cX8_row 44 = .ok (.iastore, 1) := by decide +kernel
theorem dX8_row_45 : decode cX8_row 45 = .ok (.aload_n 0, 1) := by decide +kernel
theorem dX8_row_46 : decode cX8_row 46 = .ok (.getfield 13, 3) := by decide +kernel
theorem dX8_row_49 : decode cX8_row 49 = .ok (.iload_n 1, 1) := by decide +kernel
theorem dX8_row_50 : decode cX8_row 50 = .ok (.iload_n 3, 1) := by decide +kernel
theorem dX8_row_51 : decode cX8_row 51 = .ok (.iastore, 1) := by decide +kernel
theorem dX8_row_52 : decode cX8_row 52 = .ok (.iconst 0, 1) := by decide +kernel
theorem dX8_row_53 : decode cX8_row 53 = .ok (.istore 4, 2) := by decide +kernel
theorem dX8_row_55 : decode cX8_row 55 = .ok (.iload 4, 2) := by decide +kernel
theorem dX8_row_57 : decode cX8_row 57 = .ok (.bipush 40, 2) := by decide +kernel
theorem dX8_row_59 : decode cX8_row 59 = .ok (.if_icmp .ge 22, 3) := by decide +kernel
theorem dX8_row_62 : decode cX8_row 62 = .ok (.aload_n 0, 1) := by decide +kernel
theorem dX8_row_63 : decode cX8_row 63 = .ok (.getfield 16, 3) := by decide +kernel
theorem dX8_row_66 : decode cX8_row 66 = .ok (.bipush 40, 2) := by decide +kernel
theorem dX8_row_68 : decode cX8_row 68 = .ok (.iload_n 1, 1) := by decide +kernel
theorem dX8_row_69 : decode cX8_row 69 = .ok (.imul, 1) := by decide +kernel
theorem dX8_row_70 : decode cX8_row 70 = .ok (.iload 4, 2) := by decide +kernel
theorem dX8_row_72 : decode cX8_row 72 = .ok (.iadd, 1) := by decide +kernel
theorem dX8_row_73 : decode cX8_row 73 = .ok (.iconst 0, 1) := by decide +kernel
theorem dX8_row_74 : decode cX8_row 74 = .ok (.iastore, 1) := by decide +kernel
theorem dX8_row_75 : decode cX8_row 75 = .ok (.iinc 4 1, 3) := by decide +kernel
theorem dX8_row_78 : decode cX8_row 78 = .ok (.goto (-23), 3) := by decide +kernel
theorem dX8_row_81 : decode cX8_row 81 = .ok (.aload_n 0, 1) := by decide +kernel
theorem dX8_row_82 : decode cX8_row 82 = .ok (.iload_n 3, 1) := by decide +kernel
theorem dX8_row_83 : decode cX8_row 83 = .ok (.invokevirtual 69, 3) := by decide +kernel
theorem dX8_row_86 : decode cX8_row 86 = .ok (.ireturn, 1) := by decide +kernel
set_option maxRecDepth 20000 in
theorem ggX8_set_X8_isRow : GoodIn wsX8_set wsX8_isRow := goodIn_r _ [8, 9, 10, 11, 7, 12] (by decide +kernel) (by decide +kernel)
set_option maxRecDepth 20000 in
theorem gX8_set_X8_isRow : GoodIn wsX8_set (va_wsS RX8 58 yX8_isRow wsX8_isRow) := goodIn_app (goodIn_of _ (by decide +kernel)) ggX8_set_X8_isRow
set_option maxRecDepth 20000 in
theorem ggX8_set_X8_finds : GoodIn wsX8_set wsX8_finds := goodIn_r _ [16, 17, 18, 23, 24, 25, 26, 27, 28, 29, 30, 31, 32, 33, 34, 35, 36, 37, 38, 39, 40, 41, 42, 43, 44, 45, 46, 47, 48, 49, 50, 51, 52, 53, 54, 55] (by decide +kernel) (by decide +kernel)
set_option maxRecDepth 20000 in
theorem gX8_set_X8_finds : GoodIn wsX8_set (wsV RX8 65 RX8 yX8_finds wsX8_finds) := goodIn_app (goodIn_of _ (by decide +kernel)) ggX8_set_X8_finds
set_option maxRecDepth 20000 in
theorem ggX8_set_X8_in : GoodIn wsX8_set wsX8_in := goodIn_r _ [12] (by decide +kernel) (by decide +kernel)
set_option maxRecDepth 20000 in
theorem gX8_set_X8_in : GoodIn wsX8_set (va_wsS RX8 54 yX8_in wsX8_in) := goodIn_app (goodIn_of _ (by decide +kernel)) ggX8_set_X8_in
set_option maxRecDepth 20000 in
theorem ggX8_set_X8_well : GoodIn wsX8_set wsX8_well := goodIn_r _ [22, 17, 23, 24, 25, 26, 27, 28, 29, 30, 31, 32, 33, 34, 35, 36, 37, 38, 39, 40, 41, 42, 43, 44, 45, 46, 47, 48, 49, 50, 51, 52, 53, 54, 55] (by decide +kernel) (by decide +kernel)
set_option maxRecDepth 20000 in
theorem gX8_set_X8_well : GoodIn wsX8_set (wsV RX8 69 RX8 yX8_well wsX8_well) := goodIn_app (goodIn_of _ (by decide +kernel)) ggX8_set_X8_well
theorem dX8_set_0 : decode cX8_set 0 = .ok (.iload_n 1, 1) := by decide +kernel
theorem dX8_set_1 : decode cX8_set 1 = .ok (.invokestatic 58, 3) := by decide +kernel
theorem dX8_set_4 : decode cX8_set 4 = .ok (.ifCond .ne 6, 3) := by decide +kernel
theorem dX8_set_7 : decode cX8_set 7 = .ok (.ldc 64, 2) := by decide +kernel
theorem dX8_set_9 : decode cX8_set 9 = .ok (.ireturn, 1) := by decide +kernel
theorem dX8_set_10 : decode cX8_set 10 = .ok (.aload_n 0, 1) := by decide +kernel
theorem dX8_set_11 : decode cX8_set 11 = .ok (.getfield 7, 3) := by decide +kernel
theorem dX8_set_14 : decode cX8_set 14 = .ok (.iload_n 1, 1) := by decide +kernel
theorem dX8_set_15 : decode cX8_set 15 = .ok (.iaload, 1) := by decide +kernel
theorem dX8_set_16 : decode cX8_set 16 = .ok (.ifCond .ge 9, 3) := by decide +kernel
theorem dX8_set_19 : decode cX8_set 19 = .ok (.aload_n 0, 1) := by decide +kernel
theorem dX8_set_20 : decode cX8_set 20 = .ok (.iconst 1, 1) := by decide +kernel
theorem dX8_set_21 : decode cX8_set 21 = .ok (.invokevirtual 65, 3) := by decide +kernel
theorem dX8_set_24 : decode cX8_set 24 = .ok (.ireturn, 1) := by decide +kernel
theorem dX8_set_25 : decode cX8_set 25 = .ok (.iload_n 2, 1) := by decide +kernel
theorem dX8_set_26 : decode cX8_set 26 = .ok (.i2l, 1) := by decide +kernel
theorem dX8_set_27 : decode cX8_set 27 = .ok (.lconst 0, 1) := by decide +kernel
theorem dX8_set_28 : decode cX8_set 28 = .ok (.aload_n 0, 1) := by decide +kernel
theorem dX8_set_29 : decode cX8_set 29 = .ok (.getfield 13, 3) := by decide +kernel
theorem dX8_set_32 : decode cX8_set 32 = .ok (.iload_n 1, 1) := by decide +kernel
theorem dX8_set_33 : decode cX8_set 33 = .ok (.iaload, 1) := by decide +kernel
theorem dX8_set_34 : decode cX8_set 34 = .ok (.iconst 1, 1) := by decide +kernel
theorem dX8_set_35 : decode cX8_set 35 = .ok (.isub, 1) := by decide +kernel
theorem dX8_set_36 : decode cX8_set 36 = .ok (.i2l, 1) := by decide +kernel
theorem dX8_set_37 : decode cX8_set 37 = .ok (.invokestatic 54, 3) := by decide +kernel
theorem dX8_set_40 : decode cX8_set 40 = .ok (.ifCond .ne 9, 3) := by decide +kernel
theorem dX8_set_43 : decode cX8_set 43 = .ok (.aload_n 0, 1) := by decide +kernel
theorem dX8_set_44 : decode cX8_set 44 = .ok (.iconst 2, 1) := by decide +kernel
theorem dX8_set_45 : decode cX8_set 45 = .ok (.invokevirtual 65, 3) := by decide +kernel
theorem dX8_set_48 : decode cX8_set 48 = .ok (.ireturn, 1) := by decide +kernel
theorem dX8_set_49 : decode cX8_set 49 = .ok (.aload_n 0, 1) := by decide +kernel
theorem dX8_set_50 : decode cX8_set 50 = .ok (.getfield 7, 3) := by decide +kernel
theorem dX8_set_53 : decode cX8_set 53 = .ok (.iload_n 1, 1) := by decide +kernel
theorem dX8_set_54 : decode cX8_set 54 = .ok (.iaload, 1) := by decide +kernel
theorem dX8_set_55 : decode cX8_set 55 = .ok (.istore 4, 2) := by decide +kernel
theorem dX8_set_57 : decode cX8_set 57 = .ok (.aload_n 0, 1) := by decide +kernel
theorem dX8_set_58 : decode cX8_set 58 = .ok (.getfield 16, 3) := by decide +kernel
theorem dX8_set_61 : decode cX8_set 61 = .ok (.bipush 40, 2) := by decide +kernel
theorem dX8_set_63 : decode cX8_set 63 = .ok (.iload_n 1, 1) := by decide +kernel
theorem dX8_set_64 : decode cX8_set 64 = .ok (.imul, 1) := by decide +kernel
theorem dX8_set_65 : decode cX8_set 65 = .ok (.iload_n 2, 1) := by decide +kernel
theorem dX8_set_66 : decode cX8_set 66 = .ok (.iadd, 1) := by decide +kernel
theorem dX8_set_67 : decode cX8_set 67 = .ok (.iload 4, 2) := by decide +kernel
theorem dX8_set_69 : decode cX8_set 69 = .ok (.ifCond .ne 8, 3) := by decide +kernel
theorem dX8_set_72 : decode cX8_set 72 = .ok (.iload_n 3, 1) := by decide +kernel
theorem dX8_set_73 : decode cX8_set 73 = .ok (.i2b, 1) := by decide +kernel
theorem dX8_set_74 : decode cX8_set 74 = .ok (.goto 15, 3) := by decide +kernel
theorem dX8_set_77 : decode cX8_set 77 = .ok (.iload 4, 2) := by decide +kernel
theorem dX8_set_79 : decode cX8_set 79 = .ok (.iconst 1, 1) := by decide +kernel
theorem dX8_set_80 : decode cX8_set 80 = .ok (.if_icmp .ne 8, 3) := by decide +kernel
theorem dX8_set_83 : decode cX8_set 83 = .ok (.iload_n 3, 1) := by decide +kernel
theorem dX8_set_84 : decode cX8_set 84 = .ok (.i2s, 1) := by decide +kernel
theorem dX8_set_85 : decode cX8_set 85 = .ok (.goto 4, 3) := by decide +kernel
theorem dX8_set_88 : decode cX8_set 88 = .ok (.iload_n 3, 1) := by decide +kernel
theorem dX8_set_89 : decode cX8_set 89 = .ok (.iastore, 1) := by decide +kernel
theorem dX8_set_90 : decode cX8_set 90 = .ok (.aload_n 0, 1) := by decide +kernel
theorem dX8_set_91 : decode cX8_set 91 = .ok (.aload_n 0, 1) := by decide +kernel
theorem dX8_set_92 : decode cX8_set 92 = .ok (.getfield 16, 3) := by decide +kernel
theorem dX8_set_95 : decode cX8_set 95 = .ok (.bipush 40, 2) := by decide +kernel
theorem dX8_set_97 : decode cX8_set 97 = .ok (.iload_n 1, 1) := by decide +kernel
theorem dX8_set_98 : decode cX8_set 98 = .ok (.imul, 1) := by decide +kernel
theorem dX8_set_99 : decode cX8_set 99 = .ok (.iload_n 2, 1) := by decide +kernel
theorem dX8_set_100 : decode cX8_set 100 = .ok (.iadd, 1) := by decide +kernel
theorem dX8_set_101 : decode cX8_set 101 = .ok (.iaload, 1) := by decide +kernel
theorem dX8_set_102 : decode cX8_set 102 = .ok (.invokevirtual 69, 3) := by decide +kernel
theorem dX8_set_105 : decode cX8_set 105 = .ok (.ireturn, 1) := by decide +kernel
theorem dX8_isPart_0 : decode cX8_isPart 0 = .ok (.iload_n 2, 1) := by decide +kernel
theorem dX8_isPart_1 : decode cX8_isPart 1 = .ok (.ifCond .lt 27, 3) := by decide +kernel
theorem dX8_isPart_4 : decode cX8_isPart 4 = .ok (.iload_n 3, 1) := by decide +kernel
theorem dX8_isPart_5 : decode cX8_isPart 5 = .ok (.ifCond .lt 23, 3) := by decide +kernel
theorem dX8_isPart_8 : decode cX8_isPart 8 = .ok (.iload_n 2, 1) := by decide +kernel
theorem dX8_isPart_9 : decode cX8_isPart 9 = .ok (.i2l, 1) := by decide +kernel
theorem dX8_isPart_10 : decode cX8_isPart 10 = .ok (.iload_n 3, 1) := by decide +kernel
theorem dX8_isPart_11 : decode cX8_isPart 11 = .ok (.i2l, 1) := by decide +kernel
theorem dX8_isPart_12 : decode cX8_isPart 12 = .ok (.ladd, 1) := by decide +kernel
theorem dX8_isPart_13 : decode cX8_isPart 13 = .ok (.aload_n 0, 1) := by decide +kernel
theorem dX8_isPart_14 : decode cX8_isPart 14 = .ok (.getfield 13, 3) := by decide +kernel
theorem dX8_isPart_17 : decode cX8_isPart 17 = .ok (.iload_n 1, 1) := by decide +kernel
theorem dX8_isPart_18 : decode cX8_isPart 18 = .ok (.iaload, 1) := by decide +kernel
theorem dX8_isPart_19 : decode cX8_isPart 19 = .ok (.i2l, 1) := by decide +kernel
theorem dX8_isPart_20 : decode cX8_isPart 20 = .ok (.lcmp, 1) := by decide +kernel
theorem dX8_isPart_21 : decode cX8_isPart 21 = .ok (.ifCond .gt 7, 3) := by decide +kernel
theorem dX8_isPart_24 : decode cX8_isPart 24 = .ok (.iconst 1, 1) := by decide +kernel
theorem dX8_isPart_25 : decode cX8_isPart 25 = .ok (.goto 4, 3) := by decide +kernel
theorem dX8_isPart_28 : decode cX8_isPart 28 = .ok (.iconst 0, 1) := by decide +kernel
theorem dX8_isPart_29 : decode cX8_isPart 29 = .ok (.ireturn, 1) := by decide +kernel
set_option maxRecDepth 20000 in
theorem ggX8_copy_X8_isRow : GoodIn wsX8_copy wsX8_isRow := goodIn_r _ [8, 9, 10, 11, 7, 12] (by decide +kernel) (by decide +kernel)
set_option maxRecDepth 20000 in
theorem gX8_copy_X8_isRow : GoodIn wsX8_copy (va_wsS RX8 58 yX8_isRow wsX8_isRow) := goodIn_app (goodIn_of _ (by decide +kernel)) ggX8_copy_X8_isRow
set_option maxRecDepth 20000 in
theorem ggX8_copy_X8_finds : GoodIn wsX8_copy wsX8_finds := goodIn_r _ [16, 17, 18, 28, 29, 30, 31, 32, 33, 34, 35, 36, 37, 38, 39, 40, 41, 42, 43, 44, 45, 46, 47, 48, 49, 50, 51, 52, 53, 54, 55, 56, 57, 58, 59, 60] (by decide +kernel) (by decide +kernel)
set_option maxRecDepth 20000 in
theorem gX8_copy_X8_finds : GoodIn wsX8_copy (wsV RX8 65 RX8 yX8_finds wsX8_finds) := goodIn_app (goodIn_of _ (by decide +kernel)) ggX8_copy_X8_finds
set_option maxRecDepth 20000 in
theorem ggX8_copy_X8_isPart : GoodIn wsX8_copy wsX8_isPart := goodIn_r _ [22, 23, 28, 29, 30, 31, 32, 33, 34, 35, 36, 37, 38, 39, 40, 41, 42, 43, 44, 45, 46, 47, 48, 49, 50, 51, 52, 53, 54, 55, 56, 57, 58, 59, 60] (by decide +kernel) (by decide +kernel)
set_option maxRecDepth 20000 in
theorem gX8_copy_X8_isPart : GoodIn wsX8_copy (wsV RX8 72 RX8 yX8_isPart wsX8_isPart) := goodIn_app (goodIn_of _ (by decide +kernel)) ggX8_copy_X8_isPart
set_option maxRecDepth 20000 in
theorem ggX8_copy_X8_well : GoodIn wsX8_copy wsX8_well := goodIn_r _ [27, 17, 28, 29, 30, 31, 32, 33, 34, 35, 36, 37, 38, 39, 40, 41, 42, 43, 44, 45, 46, 47, 48, 49, 50, 51, 52, 53, 54, 55, 56, 57, 58, 59, 60] (by decide +kernel) (by decide +kernel)
set_option maxRecDepth 20000 in
theorem gX8_copy_X8_well : GoodIn wsX8_copy (wsV RX8 69 RX8 yX8_well wsX8_well) := goodIn_app (goodIn_of _ (by decide +kernel)) ggX8_copy_X8_well
theorem dX8_copy_0 : decode cX8_copy 0 = .ok (.iload_n 1, 1) := by decide +kernel
theorem dX8_copy_1 : decode cX8_copy 1 = .ok (.invokestatic 58, 3) := by decide +kernel
theorem dX8_copy_4 : decode cX8_copy 4 = .ok (.ifCond .eq 10, 3) := by decide +kernel
theorem dX8_copy_7 : decode cX8_copy 7 = .ok (.iload_n 3, 1) := by decide +kernel
theorem dX8_copy_8 : decode cX8_copy 8 = .ok (.invokestatic 58, 3) := by decide +kernel
theorem dX8_copy_11 : decode cX8_copy 11 = .ok (.ifCond .ne 6, 3) := by decide +kernel
theorem dX8_copy_14 : decode cX8_copy 14 = .ok (.ldc 64, 2) := by decide +kernel
theorem dX8_copy_16 : decode cX8_copy 16 = .ok (.ireturn, 1) := by decide +kernel
theorem dX8_copy_17 : decode cX8_copy 17 = .ok (.aload_n 0, 1) := by decide +kernel
theorem dX8_copy_18 : decode cX8_copy 18 = .ok (.getfield 7, 3) := by decide +kernel
theorem dX8_copy_21 : decode cX8_copy 21 = .ok (.iload_n 1, 1) := by decide +kernel
theorem dX8_copy_22 : decode cX8_copy 22 = .ok (.iaload, 1) := by decide +kernel
theorem dX8_copy_23 : decode cX8_copy 23 = .ok (.ifCond .lt 12, 3) := by decide +kernel
theorem dX8_copy_26 : decode cX8_copy 26 = .ok (.aload_n 0, 1) := by decide +kernel
theorem dX8_copy_27 : decode cX8_copy 27 = .ok (.getfield 7, 3) := by decide +kernel
theorem dX8_copy_30 : decode cX8_copy 30 = .ok (.iload_n 3, 1) := by decide +kernel
theorem dX8_copy_31 : decode cX8_copy 31 = .ok (.iaload, 1) := by decide +kernel
theorem dX8_copy_32 : decode cX8_copy 32 = .ok (.ifCond .ge 9, 3) := by decide +kernel
theorem dX8_copy_35 : decode cX8_copy 35 = .ok (.aload_n 0, 1) := by decide +kernel
theorem dX8_copy_36 : decode cX8_copy 36 = .ok (.iconst 1, 1) := by decide +kernel
theorem dX8_copy_37 : decode cX8_copy 37 = .ok (.invokevirtual 65, 3) := by decide +kernel
theorem dX8_copy_40 : decode cX8_copy 40 = .ok (.ireturn, 1) := by decide +kernel
theorem dX8_copy_41 : decode cX8_copy 41 = .ok (.aload_n 0, 1) := by decide +kernel
theorem dX8_copy_42 : decode cX8_copy 42 = .ok (.getfield 7, 3) := by decide +kernel
theorem dX8_copy_45 : decode cX8_copy 45 = .ok (.iload_n 1, 1) := by decide +kernel
theorem dX8_copy_46 : decode cX8_copy 46 = .ok (.iaload, 1) := by decide +kernel
theorem dX8_copy_47 : decode cX8_copy 47 = .ok (.aload_n 0, 1) := by decide +kernel
theorem dX8_copy_48 : decode cX8_copy 48 = .ok (.getfield 7, 3) := by decide +kernel
theorem dX8_copy_51 : decode cX8_copy 51 = .ok (.iload_n 3, 1) := by decide +kernel
theorem dX8_copy_52 : decode cX8_copy 52 = .ok (.iaload, 1) := by decide +kernel
theorem dX8_copy_53 : decode cX8_copy 53 = .ok (.if_icmp .eq 9, 3) := by decide +kernel
theorem dX8_copy_56 : decode cX8_copy 56 = .ok (.aload_n 0, 1) := by decide +kernel
theorem dX8_copy_57 : decode cX8_copy 57 = .ok (.iconst 5, 1) := by decide +kernel
theorem dX8_copy_58 : decode cX8_copy 58 = .ok (.invokevirtual 65, 3) := by decide +kernel
theorem dX8_copy_61 : decode cX8_copy 61 = .ok (.ireturn, 1) := by decide +kernel
theorem dX8_copy_62 : decode cX8_copy 62 = .ok (.aload_n 0, 1) := by decide +kernel
theorem dX8_copy_63 : decode cX8_copy 63 = .ok (.iload_n 1, 1) := by decide +kernel
theorem dX8_copy_64 : decode cX8_copy 64 = .ok (.iload_n 2, 1) := by decide +kernel
theorem dX8_copy_65 : decode cX8_copy 65 = .ok (.iload 5, 2) := by decide +kernel
theorem dX8_copy_67 : decode cX8_copy 67 = .ok (.invokevirtual 72, 3) := by decide +kernel
theorem dX8_copy_70 : decode cX8_copy 70 = .ok (.ifCond .eq 15, 3) := by decide +kernel
theorem dX8_copy_73 : decode cX8_copy 73 = .ok (.aload_n 0, 1) := by decide +kernel
theorem dX8_copy_74 : decode cX8_copy 74 = .ok (.iload_n 3, 1) := by decide +kernel
theorem dX8_copy_75 : decode cX8_copy 75 = .ok (.iload 4, 2) := by decide +kernel
theorem dX8_copy_77 : decode cX8_copy 77 = .ok (.iload 5, 2) := by decide +kernel
theorem dX8_copy_79 : decode cX8_copy 79 = .ok (.invokevirtual 72, 3) := by decide +kernel
theorem dX8_copy_82 : decode cX8_copy 82 = .ok (.ifCond .ne 9, 3) := by decide +kernel
theorem dX8_copy_85 : decode cX8_copy 85 = .ok (.aload_n 0, 1) := by decide +kernel
theorem dX8_copy_86 : decode cX8_copy 86 = .ok (.iconst 2, 1) := by decide +kernel
theorem dX8_copy_87 : decode cX8_copy 87 = .ok (.invokevirtual 65, 3) := by decide +kernel
theorem dX8_copy_90 : decode cX8_copy 90 = .ok (.ireturn, 1) := by decide +kernel
theorem dX8_copy_91 : decode cX8_copy 91 = .ok (.iconst 0, 1) := by decide +kernel
theorem dX8_copy_92 : decode cX8_copy 92 = .ok (.istore 6, 2) := by decide +kernel
theorem dX8_copy_94 : decode cX8_copy 94 = .ok (.iload 6, 2) := by decide +kernel
theorem dX8_copy_96 : decode cX8_copy 96 = .ok (.iload 5, 2) := by decide +kernel
theorem dX8_copy_98 : decode cX8_copy 98 = .ok (.if_icmp .ge 30, 3) := by decide +kernel
theorem dX8_copy_101 : decode cX8_copy 101 = .ok (.aload_n 0, 1) := by decide +kernel
theorem dX8_copy_102 : decode cX8_copy 102 = .ok (.getfield 19, 3) := by decide +kernel
theorem dX8_copy_105 : decode cX8_copy 105 = .ok (.iload 6, 2) := by decide +kernel
theorem dX8_copy_107 : decode cX8_copy 107 = .ok (.aload_n 0, 1) := by decide +kernel
theorem dX8_copy_108 : decode cX8_copy 108 = .ok (.getfield 16, 3) := by decide +kernel
theorem dX8_copy_111 : decode cX8_copy 111 = .ok (.bipush 40, 2) := by decide +kernel
theorem dX8_copy_113 : decode cX8_copy 113 = .ok (.iload_n 1, 1) := by decide +kernel
theorem dX8_copy_114 : decode cX8_copy 114 = .ok (.imul, 1) := by decide +kernel
theorem dX8_copy_115 : decode cX8_copy 115 = .ok (.iload_n 2, 1) := by decide +kernel
theorem dX8_copy_116 : decode cX8_copy 116 = .ok (.iadd, 1) := by decide +kernel
theorem dX8_copy_117 : decode cX8_copy 117 = .ok (.iload 6, 2) := by decide +kernel
theorem dX8_copy_119 : decode cX8_copy 119 = .ok (.iadd, 1) := by decide +kernel
theorem dX8_copy_120 : decode cX8_copy 120 = .ok (.iaload, 1) := by decide +kernel
theorem dX8_copy_121 : decode cX8_copy 121 = .ok (.iastore, 1) := by decide +kernel
theorem dX8_copy_122 : decode cX8_copy 122 = .ok (.iinc 6 1, 3) := by decide +kernel
theorem dX8_copy_125 : decode cX8_copy 125 = .ok (.goto (-31), 3) := by decide +kernel
theorem dX8_copy_128 : decode cX8_copy 128 = .ok (.iconst 0, 1) := by decide +kernel
theorem dX8_copy_129 : decode cX8_copy 129 = .ok (.istore 6, 2) := by decide +kernel
theorem dX8_copy_131 : decode cX8_copy 131 = .ok (.iload 6, 2) := by decide +kernel
theorem dX8_copy_133 : decode cX8_copy 133 = .ok (.iload 5, 2) := by decide +kernel
theorem dX8_copy_135 : decode cX8_copy 135 = .ok (.if_icmp .ge 31, 3) := by decide +kernel
theorem dX8_copy_138 : decode cX8_copy 138 = .ok (.aload_n 0, 1) := by decide +kernel
theorem dX8_copy_139 : decode cX8_copy 139 = .ok (.getfield 16, 3) := by decide +kernel
theorem dX8_copy_142 : decode cX8_copy 142 = .ok (.bipush 40, 2) := by decide +kernel
theorem dX8_copy_144 : decode cX8_copy 144 = .ok (.iload_n 3, 1) := by decide +kernel
theorem dX8_copy_145 : decode cX8_copy 145 = .ok (.imul, 1) := by decide +kernel
theorem dX8_copy_146 : decode cX8_copy 146 = .ok (.iload 4, 2) := by decide +kernel
theorem dX8_copy_148 : decode cX8_copy 148 = .ok (.iadd, 1) := by decide +kernel
theorem dX8_copy_149 : decode cX8_copy 149 = .ok (.iload 6, 2) := by decide +kernel
theorem dX8_copy_151 : decode cX8_copy 151 = .ok (.iadd, 1) := by decide +kernel
theorem dX8_copy_152 : decode cX8_copy 152 = .ok (.aload_n 0, 1) := by decide +kernel
theorem dX8_copy_153 : decode cX8_copy 153 = .ok (.getfield 19, 3) := by decide +kernel
theorem dX8_copy_156 : decode cX8_copy 156 = .ok (.iload 6, 2) := by decide +kernel
theorem dX8_copy_158 : decode cX8_copy 158 = .ok (.iaload, 1) := by decide +kernel
theorem dX8_copy_159 : decode cX8_copy 159 = .ok (.iastore, 1) := by decide +kernel
theorem dX8_copy_160 : decode cX8_copy 160 = .ok (.iinc 6 1, 3) := by decide +kernel
theorem dX8_copy_163 : decode cX8_copy 163 = .ok (.goto (-32), 3) := by decide +kernel
theorem dX8_copy_166 : decode cX8_copy 166 = .ok (.aload_n 0, 1) := by decide +kernel
theorem dX8_copy_167 : decode cX8_copy 167 = .ok (.iload 5, 2) := by decide +kernel
theorem dX8_copy_169 : decode cX8_copy 169 = .ok (.invokevirtual 69, 3) := by decide +kernel
theorem dX8_copy_172 : decode cX8_copy 172 = .ok (.ireturn, 1) := by decide +kernel
set_option maxRecDepth 20000 in
theorem ggX8_drop_X8_isRow : GoodIn wsX8_drop wsX8_isRow := goodIn_r _ [7, 8, 9, 10, 6, 11] (by decide +kernel) (by decide +kernel)
set_option maxRecDepth 20000 in
theorem gX8_drop_X8_isRow : GoodIn wsX8_drop (va_wsS RX8 58 yX8_isRow wsX8_isRow) := goodIn_app (goodIn_of _ (by decide +kernel)) ggX8_drop_X8_isRow
set_option maxRecDepth 20000 in
theorem ggX8_drop_X8_finds : GoodIn wsX8_drop wsX8_finds := goodIn_r _ [15, 16, 17, 22, 23, 24, 25, 26, 27, 28, 29, 30, 31, 32, 33, 34, 35, 36, 37, 38, 39, 40, 41, 42, 43, 44, 45, 46, 47, 48, 49, 50, 51, 52, 53, 54] (by decide +kernel) (by decide +kernel)
set_option maxRecDepth 20000 in
theorem gX8_drop_X8_finds : GoodIn wsX8_drop (wsV RX8 65 RX8 yX8_finds wsX8_finds) := goodIn_app (goodIn_of _ (by decide +kernel)) ggX8_drop_X8_finds
set_option maxRecDepth 20000 in
theorem ggX8_drop_X8_well : GoodIn wsX8_drop wsX8_well := goodIn_r _ [21, 16, 22, 23, 24, 25, 26, 27, 28, 29, 30, 31, 32, 33, 34, 35, 36, 37, 38, 39, 40, 41, 42, 43, 44, 45, 46, 47, 48, 49, 50, 51, 52, 53, 54] (by decide +kernel) (by decide +kernel)
set_option maxRecDepth 20000 in
theorem gX8_drop_X8_well : GoodIn wsX8_drop (wsV RX8 69 RX8 yX8_well wsX8_well) := goodIn_app (goodIn_of _ (by decide +kernel)) ggX8_drop_X8_well
theorem dX8_drop_0 : decode cX8_drop 0 = .ok (.iload_n 1, 1) := by decide +kernel
theorem dX8_drop_1 : decode cX8_drop 1 = .ok (.invokestatic 58, 3) := by decide +kernel
theorem dX8_drop_4 : decode cX8_drop 4 = .ok (.ifCond .ne 6, 3) := by decide +kernel
theorem dX8_drop_7 : decode cX8_drop 7 = .ok (.ldc 64, 2) := by decide +kernel
theorem dX8_drop_9 : decode cX8_drop 9 = .ok (.ireturn, 1) := by decide +kernel
theorem dX8_drop_10 : decode cX8_drop 10 = .ok (.aload_n 0, 1) := by decide +kernel
theorem dX8_drop_11 : decode cX8_drop 11 = .ok (.getfield 7, 3) := by decide +kernel
theorem dX8_drop_14 : decode cX8_drop 14 = .ok (.iload_n 1, 1) := by decide +kernel
theorem dX8_drop_15 : decode cX8_drop 15 = .ok (.iaload, 1) := by decide +kernel
theorem dX8_drop_16 : decode cX8_drop 16 = .ok (.ifCond .ge 9, 3) := by decide +kernel
theorem dX8_drop_19 : decode cX8_drop 19 = .ok (.aload_n 0, 1) := by decide +kernel
theorem dX8_drop_20 : decode cX8_drop 20 = .ok (.iconst 1, 1) := by decide +kernel
theorem dX8_drop_21 : decode cX8_drop 21 = .ok (.invokevirtual 65, 3) := by decide +kernel
theorem dX8_drop_24 : decode cX8_drop 24 = .ok (.ireturn, 1) := by decide +kernel
theorem dX8_drop_25 : decode cX8_drop 25 = .ok (.aload_n 0, 1) := by decide +kernel
theorem dX8_drop_26 : decode cX8_drop 26 = .ok (.getfield 7, 3) := by decide +kernel
theorem dX8_drop_29 : decode cX8_drop 29 = .ok (.iload_n 1, 1) := by decide +kernel
theorem dX8_drop_30 : decode cX8_drop 30 = .ok (.iconst (-1), 1) := by decide +kernel
theorem dX8_drop_31 : decode cX8_drop 31 = .ok (.iastore, 1) := by decide +kernel
theorem dX8_drop_32 : decode cX8_drop 32 = .ok (.aload_n 0, 1) := by decide +kernel
theorem dX8_drop_33 : decode cX8_drop 33 = .ok (.aload_n 0, 1) := by decide +kernel
theorem dX8_drop_34 : decode cX8_drop 34 = .ok (.getfield 13, 3) := by decide +kernel
theorem dX8_drop_37 : decode cX8_drop 37 = .ok (.iload_n 1, 1) := by decide +kernel
theorem dX8_drop_38 : decode cX8_drop 38 = .ok (.iaload, 1) := by decide +kernel
theorem dX8_drop_39 : decode cX8_drop 39 = .ok (.invokevirtual 69, 3) := by decide +kernel
theorem dX8_drop_42 : decode cX8_drop 42 = .ok (.ireturn, 1) := by decide +kernel
set_option maxRecDepth 20000 in
theorem ggX8_partOf_X8_isPart : GoodIn wsX8_partOf wsX8_isPart := goodIn_r _ [6, 7, 8, 9, 10, 11, 12, 13, 14, 15, 16, 17, 18, 19, 20, 21, 22, 23, 24, 25, 26, 27, 28, 29, 30, 31, 32, 33, 34, 35, 36, 37, 38, 39, 40] (by decide +kernel) (by decide +kernel)
set_option maxRecDepth 20000 in
theorem gX8_partOf_X8_isPart : GoodIn wsX8_partOf (wsV RX8 72 RX8 yX8_isPart wsX8_isPart) := goodIn_app (goodIn_of _ (by decide +kernel)) ggX8_partOf_X8_isPart
theorem dX8_partOf_0 : decode cX8_partOf 0 = .ok (.aload_n 0, 1) := by decide +kernel
theorem dX8_partOf_1 : decode cX8_partOf 1 = .ok (.getfield 7, 3) := by decide +kernel
theorem dX8_partOf_4 : decode cX8_partOf 4 = .ok (.iload_n 1, 1) := by decide +kernel
theorem dX8_partOf_5 : decode cX8_partOf 5 = .ok (.iaload, 1) := by decide +kernel
theorem dX8_partOf_6 : decode cX8_partOf 6 = .ok (.ifCond .ge 7, 3) := by decide +kernel
theorem dX8_partOf_9 : decode cX8_partOf 9 = .ok (.iconst 1, 1) := by decide +kernel
theorem dX8_partOf_10 : decode cX8_partOf 10 = .ok (.goto 18, 3) := by decide +kernel
theorem dX8_partOf_13 : decode cX8_partOf 13 = .ok (.aload_n 0, 1) := by decide +kernel
theorem dX8_partOf_14 : decode cX8_partOf 14 = .ok (.iload_n 1, 1) := by decide +kernel
theorem dX8_partOf_15 : decode cX8_partOf 15 = .ok (.iload_n 2, 1) := by decide +kernel
theorem dX8_partOf_16 : decode cX8_partOf 16 = .ok (.iload_n 3, 1) := by decide +kernel
theorem dX8_partOf_17 : decode cX8_partOf 17 = .ok (.invokevirtual 72, 3) := by decide +kernel
theorem dX8_partOf_20 : decode cX8_partOf 20 = .ok (.ifCond .eq 7, 3) := by decide +kernel
theorem dX8_partOf_23 : decode cX8_partOf 23 = .ok (.iconst 0, 1) := by decide +kernel
theorem dX8_partOf_24 : decode cX8_partOf 24 = .ok (.goto 4, 3) := by decide +kernel
theorem dX8_partOf_27 : decode cX8_partOf 27 = .ok (.iconst 2, 1) := by decide +kernel
theorem dX8_partOf_28 : decode cX8_partOf 28 = .ok (.ireturn, 1) := by decide +kernel
set_option maxRecDepth 20000 in
theorem ggX8_feed_X8_in : GoodIn wsX8_feed wsX8_in := goodIn_r _ [9] (by decide +kernel) (by decide +kernel)
set_option maxRecDepth 20000 in
theorem gX8_feed_X8_in : GoodIn wsX8_feed (va_wsS RX8 54 yX8_in wsX8_in) := goodIn_app (goodIn_of _ (by decide +kernel)) ggX8_feed_X8_in
theorem dX8_feed_0 : decode cX8_feed 0 = .ok (.iload_n 1, 1) := by decide +kernel
theorem dX8_feed_1 : decode cX8_feed 1 = .ok (.i2l, 1) := by decide +kernel
theorem dX8_feed_2 : decode cX8_feed 2 = .ok (.lconst 0, 1) := by decide +kernel
theorem dX8_feed_3 : decode cX8_feed 3 = .ok (.ldc2_w 76, 3) := by decide +kernel
theorem dX8_feed_6 : decode cX8_feed 6 = .ok (.invokestatic 54, 3) := by decide +kernel
theorem dX8_feed_9 : decode cX8_feed 9 = .ok (.ifCond .ne 6, 3) := by decide +kernel
theorem dX8_feed_12 : decode cX8_feed 12 = .ok (.ldc 64, 2) := by decide +kernel
theorem dX8_feed_14 : decode cX8_feed 14 = .ok (.ireturn, 1) := by decide +kernel
theorem dX8_feed_15 : decode cX8_feed 15 = .ok (.aload_n 0, 1) := by decide +kernel
theorem dX8_feed_16 : decode cX8_feed 16 = .ok (.getfield 78, 3) := by decide +kernel
theorem dX8_feed_19 : decode cX8_feed 19 = .ok (.bipush 100, 2) := by decide +kernel
theorem dX8_feed_21 : decode cX8_feed 21 = .ok (.if_icmp .ne 6, 3) := by decide +kernel
theorem dX8_feed_24 : decode cX8_feed 24 = .ok (.ldc 81, 2) := by decide +kernel
theorem dX8_feed_26 : decode cX8_feed 26 = .ok (.ireturn, 1) := by decide +kernel
theorem dX8_feed_27 : decode cX8_feed 27 = .ok (.aload_n 0, 1) := by decide +kernel
theorem dX8_feed_28 : decode cX8_feed 28 = .ok (.getfield 28, 3) := by decide +kernel
theorem dX8_feed_31 : decode cX8_feed 31 = .ok (.aload_n 0, 1) := by decide +kernel
theorem dX8_feed_32 : decode cX8_feed 32 = .ok (.getfield 78, 3) := by decide +kernel
theorem dX8_feed_35 : decode cX8_feed 35 = .ok (.iload_n 1, 1) := by decide +kernel
theorem dX8_feed_36 : decode cX8_feed 36 = .ok (.iastore, 1) := by decide +kernel
theorem dX8_feed_37 : decode cX8_feed 37 = .ok (.aload_n 0, 1) := by decide +kernel
theorem dX8_feed_38 : decode cX8_feed 38 = .ok (.dup, 1) := by decide +kernel
theorem dX8_feed_39 : decode cX8_feed 39 = .ok (.getfield 78, 3) := by decide +kernel
theorem dX8_feed_42 : decode cX8_feed 42 = .ok (.iconst 1, 1) := by decide +kernel
theorem dX8_feed_43 : decode cX8_feed 43 = .ok (.iadd, 1) := by decide +kernel
theorem dX8_feed_44 : decode cX8_feed 44 = .ok (.putfield 78, 3) := by decide +kernel
theorem dX8_feed_47 : decode cX8_feed 47 = .ok (.aload_n 0, 1) := by decide +kernel
theorem dX8_feed_48 : decode cX8_feed 48 = .ok (.getfield 78, 3) := by decide +kernel
theorem dX8_feed_51 : decode cX8_feed 51 = .ok (.ireturn, 1) := by decide +kernel
theorem dX8_here_0 : decode cX8_here 0 = .ok (.aload_n 0, 1) := by decide +kernel
theorem dX8_here_1 : decode cX8_here 1 = .ok (.getfield 82, 3) := by decide +kernel
theorem dX8_here_4 : decode cX8_here 4 = .ok (.aload_n 0, 1) := by decide +kernel
theorem dX8_here_5 : decode cX8_here 5 = .ok (.getfield 78, 3) := by decide +kernel
theorem dX8_here_8 : decode cX8_here 8 = .ok (.if_icmp .ge 15, 3) := by decide +kernel
theorem dX8_here_11 : decode cX8_here 11 = .ok (.aload_n 0, 1) := by decide +kernel
theorem dX8_here_12 : decode cX8_here 12 = .ok (.getfield 28, 3) := by decide +kernel
theorem dX8_here_15 : decode cX8_here 15 = .ok (.aload_n 0, 1) := by decide +kernel
theorem dX8_here_16 : decode cX8_here 16 = .ok (.getfield 82, 3) := by decide +kernel
theorem dX8_here_19 : decode cX8_here 19 = .ok (.iaload, 1) := by decide +kernel
theorem dX8_here_20 : decode cX8_here 20 = .ok (.goto 4, 3) := by decide +kernel
theorem dX8_here_23 : decode cX8_here 23 = .ok (.iconst 0, 1) := by decide +kernel
theorem dX8_here_24 : decode cX8_here 24 = .ok (.ireturn, 1) := by decide +kernel
theorem dX8_wrong_0 : decode cX8_wrong 0 = .ok (.aload_n 0, 1) := by decide +kernel
theorem dX8_wrong_1 : decode cX8_wrong 1 = .ok (.getfield 85, 3) := by decide +kernel
theorem dX8_wrong_4 : decode cX8_wrong 4 = .ok (.ifCond .ne 13, 3) := by decide +kernel
theorem dX8_wrong_7 : decode cX8_wrong 7 = .ok (.aload_n 0, 1) := by decide +kernel
theorem dX8_wrong_8 : decode cX8_wrong 8 = .ok (.iload_n 1, 1) := by decide +kernel
theorem dX8_wrong_9 : decode cX8_wrong 9 = .ok (.putfield 85, 3) := by decide +kernel
theorem dX8_wrong_12 : decode cX8_wrong 12 = .ok (.aload_n 0, 1) := by decide +kernel
theorem dX8_wrong_13 : decode cX8_wrong 13 = .ok (.iload_n 2, 1) := by decide +kernel
theorem dX8_wrong_14 : decode cX8_wrong 14 = .ok (.putfield 88, 3) := by decide +kernel
theorem dX8_wrong_17 : decode cX8_wrong 17 = .ok (.return_, 1) := by decide +kernel
set_option maxRecDepth 20000 in
theorem ggX8_must_X8_here : GoodIn wsX8_must wsX8_here := goodIn_r _ [8, 2, 3, 9, 15, 16, 17, 18, 19, 20, 21, 22, 23, 24, 25, 26, 27, 28, 29, 30, 31, 32, 33, 34, 35, 36, 37, 38, 39, 40, 41, 42, 43, 44, 45, 46, 47] (by decide +kernel) (by decide +kernel)
set_option maxRecDepth 20000 in
theorem gX8_must_X8_here : GoodIn wsX8_must (wsV RX8 91 RX8 yX8_here wsX8_here) := goodIn_app (goodIn_of _ (by decide +kernel)) ggX8_must_X8_here
set_option maxRecDepth 20000 in
theorem ggX8_must_X8_wrong : GoodIn wsX8_must wsX8_wrong := goodIn_r _ [13, 1, 14, 15, 16, 17, 18, 19, 20, 21, 22, 23, 24, 25, 26, 27, 28, 29, 30, 31, 32, 33, 34, 35, 36, 37, 38, 39, 40, 41, 42, 43, 44, 45, 46, 47] (by decide +kernel) (by decide +kernel)
set_option maxRecDepth 20000 in
theorem gX8_must_X8_wrong : GoodIn wsX8_must (wsV RX8 95 RX8 yX8_wrong wsX8_wrong) := goodIn_app (goodIn_of _ (by decide +kernel)) ggX8_must_X8_wrong
theorem dX8_must_0 : decode cX8_must 0 = .ok (.aload_n 0, 1) := by decide +kernel
theorem dX8_must_1 : decode cX8_must 1 = .ok (.getfield 85, 3) := by decide +kernel
theorem dX8_must_4 : decode cX8_must 4 = .ok (.ifCond .ne 31, 3) := by decide +kernel
theorem dX8_must_7 : decode cX8_must 7 = .ok (.aload_n 0, 1) := by decide +kernel
theorem dX8_must_8 : decode cX8_must 8 = .ok (.getfield 82, 3) := by decide +kernel
theorem dX8_must_11 : decode cX8_must 11 = .ok (.aload_n 0, 1) := by decide +kernel
theorem dX8_must_12 : decode cX8_must 12 = .ok (.getfield 78, 3) := by decide +kernel
theorem dX8_must_15 : decode cX8_must 15 = .ok (.if_icmp .eq 11, 3) := by decide +kernel
theorem dX8_must_18 : decode cX8_must 18 = .ok (.aload_n 0, 1) := by decide +kernel
theorem dX8_must_19 : decode cX8_must 19 = .ok (.invokevirtual 91, 3) := by decide +kernel
theorem dX8_must_22 : decode cX8_must 22 = .ok (.iload_n 1, 1) := by decide +kernel
theorem dX8_must_23 : decode cX8_must 23 = .ok (.if_icmp .eq 12, 3) := by decide +kernel
theorem dX8_must_26 : decode cX8_must 26 = .ok (.aload_n 0, 1) := by decide +kernel
theorem dX8_must_27 : decode cX8_must 27 = .ok (.iconst 1, 1) := by decide +kernel
theorem dX8_must_28 : decode cX8_must 28 = .ok (.aload_n 0, 1) := by decide +kernel
theorem dX8_must_29 : decode cX8_must 29 = .ok (.getfield 82, 3) := by decide +kernel
theorem dX8_must_32 : decode cX8_must 32 = .ok (.invokevirtual 95, 3) := by decide +kernel
theorem dX8_must_35 : decode cX8_must 35 = .ok (.aload_n 0, 1) := by decide +kernel
theorem dX8_must_36 : decode cX8_must 36 = .ok (.dup, 1) := by decide +kernel
theorem dX8_must_37 : decode cX8_must 37 = .ok (.getfield 82, 3) := by decide +kernel
theorem dX8_must_40 : decode cX8_must 40 = .ok (.aload_n 0, 1) := by decide +kernel
theorem dX8_must_41 : decode cX8_must 41 = .ok (.getfield 85, 3) := by decide +kernel
theorem dX8_must_44 : decode cX8_must 44 = .ok (.ifCond .ne 7, 3) := by decide +kernel
theorem dX8_must_47 : decode cX8_must 47 = .ok (.iconst 1, 1) := by decide +kernel
theorem dX8_must_48 : decode cX8_must 48 = .ok (.goto 4, 3) := by decide +kernel
theorem dX8_must_51 : decode cX8_must 51 = .ok (.iconst 0, 1) := by decide +kernel
theorem dX8_must_52 : decode cX8_must 52 = .ok (.iadd, 1) := by decide +kernel
theorem dX8_must_53 : decode cX8_must 53 = .ok (.putfield 82, 3) := by decide +kernel
theorem dX8_must_56 : decode cX8_must 56 = .ok (.return_, 1) := by decide +kernel
set_option maxRecDepth 20000 in
theorem ggX8_number_X8_here : GoodIn wsX8_number wsX8_here := goodIn_r _ [10, 2, 3, 11, 20, 21, 22, 23, 24, 25, 26, 27, 28, 29, 30, 31, 32, 33, 34, 35, 36, 37, 38, 39, 40, 41, 42, 43, 44, 45, 46, 47, 48, 49, 50, 51, 52] (by decide +kernel) (by decide +kernel)
set_option maxRecDepth 20000 in
theorem gX8_number_X8_here : GoodIn wsX8_number (wsV RX8 91 RX8 yX8_here wsX8_here) := goodIn_app (goodIn_of _ (by decide +kernel)) ggX8_number_X8_here
set_option maxRecDepth 20000 in
theorem ggX8_number_X8_in : GoodIn wsX8_number wsX8_in := goodIn_r _ [14] (by decide +kernel) (by decide +kernel)
set_option maxRecDepth 20000 in
theorem gX8_number_X8_in : GoodIn wsX8_number (va_wsS RX8 54 yX8_in wsX8_in) := goodIn_app (goodIn_of _ (by decide +kernel)) ggX8_number_X8_in
set_option maxRecDepth 20000 in
theorem ggX8_number_X8_wrong : GoodIn wsX8_number wsX8_wrong := goodIn_r _ [18, 1, 19, 20, 21, 22, 23, 24, 25, 26, 27, 28, 29, 30, 31, 32, 33, 34, 35, 36, 37, 38, 39, 40, 41, 42, 43, 44, 45, 46, 47, 48, 49, 50, 51, 52] (by decide +kernel) (by decide +kernel)
set_option maxRecDepth 20000 in
theorem gX8_number_X8_wrong : GoodIn wsX8_number (wsV RX8 95 RX8 yX8_wrong wsX8_wrong) := goodIn_app (goodIn_of _ (by decide +kernel)) ggX8_number_X8_wrong
theorem dX8_number_0 : decode cX8_number 0 = .ok (.aload_n 0, 1) := by decide +kernel
theorem dX8_number_1 : decode cX8_number 1 = .ok (.getfield 85, 3) := by decide +kernel
theorem dX8_number_4 : decode cX8_number 4 = .ok (.ifCond .eq 5, 3) := by decide +kernel
theorem dX8_number_7 : decode cX8_number 7 = .ok (.iload_n 1, 1) := by decide +kernel
theorem dX8_number_8 : decode cX8_number 8 = .ok (.ireturn, 1) := by decide +kernel
theorem dX8_number_9 : decode cX8_number 9 = .ok (.aload_n 0, 1) := by decide +kernel
theorem dX8_number_10 : decode cX8_number 10 = .ok (.getfield 82, 3) := by decide +kernel
theorem dX8_number_13 : decode cX8_number 13 = .ok (.istore_n 3, 1) := by decide +kernel
theorem dX8_number_14 : decode cX8_number 14 = .ok (.iconst 0, 1) := by decide +kernel
theorem dX8_number_15 : decode cX8_number 15 = .ok (.istore 4, 2) := by decide +kernel
theorem dX8_number_17 : decode cX8_number 17 = .ok (.aload_n 0, 1) := by decide +kernel
theorem dX8_number_18 : decode cX8_number 18 = .ok (.getfield 82, 3) := by decide +kernel
theorem dX8_number_21 : decode cX8_number 21 = .ok (.aload_n 0, 1) := by decide +kernel
theorem dX8_number_22 : decode cX8_number 22 = .ok (.getfield 78, 3) := by decide +kernel
theorem dX8_number_25 : decode cX8_number 25 = .ok (.if_icmp .ge 63, 3) := by decide +kernel
theorem dX8_number_28 : decode cX8_number 28 = .ok (.aload_n 0, 1) := by decide +kernel
theorem dX8_number_29 : decode cX8_number 29 = .ok (.invokevirtual 91, 3) := by decide +kernel
theorem dX8_number_32 : decode cX8_number 32 = .ok (.i2l, 1) := by decide +kernel
theorem dX8_number_33 : decode cX8_number 33 = .ok (.ldc2_w 99, 3) := by decide +kernel
theorem dX8_number_36 : decode cX8_number 36 = .ok (.ldc2_w 101, 3) := by decide +kernel
theorem dX8_number_39 : decode cX8_number 39 = .ok (.invokestatic 54, 3) := by decide +kernel
theorem dX8_number_42 : decode cX8_number 42 = .ok (.ifCond .eq 46, 3) := by decide +kernel
theorem dX8_number_45 : decode cX8_number 45 = .ok (.aload_n 0, 1) := by decide +kernel
theorem dX8_number_46 : decode cX8_number 46 = .ok (.getfield 82, 3) := by decide +kernel
theorem dX8_number_49 : decode cX8_number 49 = .ok (.iload_n 3, 1) := by decide +kernel
theorem dX8_number_50 : decode cX8_number 50 = .ok (.isub, 1) := by decide +kernel
theorem dX8_number_51 : decode cX8_number 51 = .ok (.iconst 2, 1) := by decide +kernel
theorem dX8_number_52 : decode cX8_number 52 = .ok (.if_icmp .le 8, 3) := by decide +kernel
theorem dX8_number_55 : decode cX8_number 55 = .ok (.iload 4, 2) := by decide +kernel
theorem dX8_number_57 : decode cX8_number 57 = .ok (.goto 16, 3) := by decide +kernel
theorem dX8_number_60 : decode cX8_number 60 = .ok (.bipush 10, 2) := by decide +kernel
theorem dX8_number_62 : decode cX8_number 62 = .ok (.iload 4, 2) := by decide +kernel
theorem dX8_number_64 : decode cX8_number 64 = .ok (.imul, 1) := by decide +kernel
theorem dX8_number_65 : decode cX8_number 65 = .ok (.aload_n 0, 1) := by decide +kernel
theorem dX8_number_66 : decode cX8_number 66 = .ok (.invokevirtual 91, 3) := by decide +kernel
theorem dX8_number_69 : decode cX8_number 69 = .ok (.iadd, 1) := by decide +kernel
theorem dX8_number_70 : decode cX8_number 70 = .ok (.bipush 48, 2) := by decide +kernel
theorem dX8_number_72 : decode cX8_number 72 = .ok (.isub, 1) := by decide +kernel
theorem dX8_number_73 : decode cX8_number 73 = .ok (.istore 4, 2) := by decide +kernel
theorem dX8_number_75 : decode cX8_number 75 = .ok (.aload_n 0, 1) := by decide +kernel
theorem dX8_number_76 : decode cX8_number 76 = .ok (.dup, 1) := by decide +kernel
theorem dX8_number_77 : decode cX8_number 77 = .ok (.getfield 82, 3) := by decide +kernel
theorem dX8_number_80 : decode cX8_number 80 = .ok (.iconst 1, 1) := by decide +kernel
theorem dX8_number_81 : decode cX8_number 81 = .ok (.iadd, 1) := by decide +kernel
theorem dX8_number_82 : decode cX8_number 82 = .ok (.putfield 82, 3) := by decide +kernel
theorem dX8_number_85 : decode cX8_number 85 = .ok (.goto (-68), 3) := by decide +kernel
theorem dX8_number_88 : decode cX8_number 88 = .ok (.aload_n 0, 1) := by decide +kernel
theorem dX8_number_89 : decode cX8_number 89 = .ok (.getfield 82, 3) := by decide +kernel
theorem dX8_number_92 : decode cX8_number 92 = .ok (.iload_n 3, 1) := by decide +kernel
theorem dX8_number_93 : decode cX8_number 93 = .ok (.if_icmp .eq 13, 3) := by decide +kernel
theorem dX8_number_96 : decode cX8_number 96 = .ok (.aload_n 0, 1) := by decide +kernel
theorem dX8_number_97 : decode cX8_number 97 = .ok (.getfield 82, 3) := by decide +kernel
theorem dX8_number_100 : decode cX8_number 100 = .ok (.iload_n 3, 1) := by decide +kernel
theorem dX8_number_101 : decode cX8_number 101 = .ok (.isub, 1) := by decide +kernel
theorem dX8_number_102 : decode cX8_number 102 = .ok (.iconst 2, 1) := by decide +kernel
theorem dX8_number_103 : decode cX8_number 103 = .ok (.if_icmp .le 12, 3) := by decide +kernel
theorem dX8_number_106 : decode cX8_number 106 = .ok (.aload_n 0, 1) := by decide +kernel
theorem dX8_number_107 : decode cX8_number 107 = .ok (.iconst 1, 1) := by decide +kernel
theorem dX8_number_108 : decode cX8_number 108 = .ok (.iload_n 3, 1) := by decide +kernel
theorem dX8_number_109 : decode cX8_number 109 = .ok (.invokevirtual 95, 3) := by decide +kernel
theorem dX8_number_112 : decode cX8_number 112 = .ok (.goto 22, 3) := by decide +kernel
theorem dX8_number_115 : decode cX8_number 115 = .ok (.iload 4, 2) := by decide +kernel
theorem dX8_number_117 : decode cX8_number 117 = .ok (.i2l, 1) := by decide +kernel
theorem dX8_number_118 : decode cX8_number 118 = .ok (.iload_n 1, 1) := by decide +kernel
theorem dX8_number_119 : decode cX8_number 119 = .ok (.i2l, 1) := by decide +kernel
theorem dX8_number_120 : decode cX8_number 120 = .ok (.iload_n 2, 1) := by decide +kernel
theorem dX8_number_121 : decode cX8_number 121 = .ok (.i2l, 1) := by decide +kernel
theorem dX8_number_122 : decode cX8_number 122 = .ok (.invokestatic 54, 3) := by decide +kernel
theorem dX8_number_125 : decode cX8_number 125 = .ok (.ifCond .ne 9, 3) := by decide +kernel
theorem dX8_number_128 : decode cX8_number 128 = .ok (.aload_n 0, 1) := by decide +kernel
theorem dX8_number_129 : decode cX8_number 129 = .ok (.iconst 2, 1) := by decide +kernel
theorem dX8_number_130 : decode cX8_number 130 = .ok (.iload_n 3, 1) := by decide +kernel
theorem dX8_number_131 : decode cX8_number 131 = .ok (.invokevirtual 95, 3) := by decide +kernel
theorem dX8_number_134 : decode cX8_number 134 = .ok (.iload 4, 2) := by decide +kernel
theorem dX8_number_136 : decode cX8_number 136 = .ok (.ireturn, 1) := by decide +kernel
theorem dX8_groundOf_0 : decode cX8_groundOf 0 = .ok (.iload_n 0, 1) := by decide +kernel
theorem dX8_groundOf_1 : decode cX8_groundOf 1 = .ok (.bipush 102, 2) := by decide +kernel
theorem dX8_groundOf_3 : decode cX8_groundOf 3 = .ok (.if_icmp .ne 7, 3) := by decide +kernel
theorem dX8_groundOf_6 : decode cX8_groundOf 6 = .ok (.iconst 0, 1) := by decide +kernel
theorem dX8_groundOf_7 : decode cX8_groundOf 7 = .ok (.goto 54, 3) := by decide +kernel
theorem dX8_groundOf_10 : decode cX8_groundOf 10 = .ok (.iload_n 0, 1) := by decide +kernel
theorem dX8_groundOf_11 : decode cX8_groundOf 11 = .ok (.bipush 100, 2) := by decide +kernel
theorem dX8_groundOf_13 : decode cX8_groundOf 13 = .ok (.if_icmp .ne 7, 3) := by decide +kernel
theorem dX8_groundOf_16 : decode cX8_groundOf 16 = .ok (.iconst 1, 1) := by decide +kernel
theorem dX8_groundOf_17 : decode cX8_groundOf 17 = .ok (.goto 44, 3) := by decide +kernel
theorem dX8_groundOf_20 : decode cX8_groundOf 20 = .ok (.iload_n 0, 1) := by decide +kernel
theorem dX8_groundOf_21 : decode cX8_groundOf 21 = .ok (.bipush 117, 2) := by decide +kernel
theorem dX8_groundOf_23 : decode cX8_groundOf 23 = .ok (.if_icmp .ne 7, 3) := by decide +kernel
theorem dX8_groundOf_26 : decode cX8_groundOf 26 = .ok (.iconst 2, 1) := by decide +kernel
theorem dX8_groundOf_27 : decode cX8_groundOf 27 = .ok (.goto 34, 3) := by decide +kernel
theorem dX8_groundOf_30 : decode cX8_groundOf 30 = .ok (.iload_n 0, 1) := by decide +kernel
theorem dX8_groundOf_31 : decode cX8_groundOf 31 = .ok (.bipush 114, 2) := by decide +kernel
theorem dX8_groundOf_33 : decode cX8_groundOf 33 = .ok (.if_icmp .ne 7, 3) := by decide +kernel
theorem dX8_groundOf_36 : decode cX8_groundOf 36 = .ok (.iconst 3, 1) := by decide +kernel
theorem dX8_groundOf_37 : decode cX8_groundOf 37 = .ok (.goto 24, 3) := by decide +kernel
theorem dX8_groundOf_40 : decode cX8_groundOf 40 = .ok (.iload_n 0, 1) := by decide +kernel
theorem dX8_groundOf_41 : decode cX8_groundOf 41 = .ok (.bipush 115, 2) := by decide +kernel
theorem dX8_groundOf_43 : decode cX8_groundOf 43 = .ok (.if_icmp .ne 7, 3) := by decide +kernel
theorem dX8_groundOf_46 : decode cX8_groundOf 46 = .ok (.iconst 4, 1) := by decide +kernel
theorem dX8_groundOf_47 : decode cX8_groundOf 47 = .ok (.goto 14, 3) := by decide +kernel
theorem dX8_groundOf_50 : decode cX8_groundOf 50 = .ok (.iload_n 0, 1) := by decide +kernel
theorem dX8_groundOf_51 : decode cX8_groundOf 51 = .ok (.bipush 119, 2) := by decide +kernel
theorem dX8_groundOf_53 : decode cX8_groundOf 53 = .ok (.if_icmp .ne 7, 3) := by decide +kernel
theorem dX8_groundOf_56 : decode cX8_groundOf 56 = .ok (.iconst 5, 1) := by decide +kernel
theorem dX8_groundOf_57 : decode cX8_groundOf 57 = .ok (.goto 4, 3) := by decide +kernel
theorem dX8_groundOf_60 : decode cX8_groundOf 60 = .ok (.iconst (-1), 1) := by decide +kernel
theorem dX8_groundOf_61 : decode cX8_groundOf 61 = .ok (.ireturn, 1) := by decide +kernel
theorem dX8_kindOf_0 : decode cX8_kindOf 0 = .ok (.iload_n 0, 1) := by decide +kernel
theorem dX8_kindOf_1 : decode cX8_kindOf 1 = .ok (.bipush 118, 2) := by decide +kernel
theorem dX8_kindOf_3 : decode cX8_kindOf 3 = .ok (.if_icmp .ne 7, 3) := by decide +kernel
theorem dX8_kindOf_6 : decode cX8_kindOf 6 = .ok (.iconst 1, 1) := by decide +kernel
theorem dX8_kindOf_7 : decode cX8_kindOf 7 = .ok (.goto 44, 3) := by decide +kernel
theorem dX8_kindOf_10 : decode cX8_kindOf 10 = .ok (.iload_n 0, 1) := by decide +kernel
theorem dX8_kindOf_11 : decode cX8_kindOf 11 = .ok (.bipush 105, 2) := by decide +kernel
theorem dX8_kindOf_13 : decode cX8_kindOf 13 = .ok (.if_icmp .ne 7, 3) := by decide +kernel
theorem dX8_kindOf_16 : decode cX8_kindOf 16 = .ok (.iconst 2, 1) := by decide +kernel
theorem dX8_kindOf_17 : decode cX8_kindOf 17 = .ok (.goto 34, 3) := by decide +kernel
theorem dX8_kindOf_20 : decode cX8_kindOf 20 = .ok (.iload_n 0, 1) := by decide +kernel
theorem dX8_kindOf_21 : decode cX8_kindOf 21 = .ok (.bipush 111, 2) := by decide +kernel
theorem dX8_kindOf_23 : decode cX8_kindOf 23 = .ok (.if_icmp .ne 7, 3) := by decide +kernel
theorem dX8_kindOf_26 : decode cX8_kindOf 26 = .ok (.iconst 3, 1) := by decide +kernel
theorem dX8_kindOf_27 : decode cX8_kindOf 27 = .ok (.goto 24, 3) := by decide +kernel
theorem dX8_kindOf_30 : decode cX8_kindOf 30 = .ok (.iload_n 0, 1) := by decide +kernel
theorem dX8_kindOf_31 : decode cX8_kindOf 31 = .ok (.bipush 98, 2) := by decide +kernel
theorem dX8_kindOf_33 : decode cX8_kindOf 33 = .ok (.if_icmp .ne 7, 3) := by decide +kernel
theorem dX8_kindOf_36 : decode cX8_kindOf 36 = .ok (.iconst 4, 1) := by decide +kernel
theorem dX8_kindOf_37 : decode cX8_kindOf 37 = .ok (.goto 14, 3) := by decide +kernel
theorem dX8_kindOf_40 : decode cX8_kindOf 40 = .ok (.iload_n 0, 1) := by decide +kernel
theorem dX8_kindOf_41 : decode cX8_kindOf 41 = .ok (.bipush 116, 2) := by decide +kernel
theorem dX8_kindOf_43 : decode cX8_kindOf 43 = .ok (.if_icmp .ne 7, 3) := by decide +kernel
theorem dX8_kindOf_46 : decode cX8_kindOf 46 = .ok (.iconst 5, 1) := by decide +kernel
theorem dX8_kindOf_47 : decode cX8_kindOf 47 = .ok (.goto 4, 3) := by decide +kernel
theorem dX8_kindOf_50 : decode cX8_kindOf 50 = .ok (.iconst (-1), 1) := by decide +kernel
theorem dX8_kindOf_51 : decode cX8_kindOf 51 = .ok (.ireturn, 1) := by decide +kernel
set_option maxRecDepth 20000 in
theorem ggX8_readLaw_X8_must : GoodIn wsX8_readLaw wsX8_must := goodIn_r _ [8, 9, 10, 11, 12, 13, 14, 7, 15, 16, 17, 18, 19, 20, 21, 31, 32, 33, 34, 35, 36, 37, 38, 39, 40, 41, 42, 43, 44, 45, 46, 47, 48, 49, 50, 51, 52, 53, 54, 55, 56, 57, 58, 59, 60, 61, 62, 63] (by decide +kernel) (by decide +kernel)
set_option maxRecDepth 20000 in
theorem gX8_readLaw_X8_must : GoodIn wsX8_readLaw (wsV RX8 103 RX8 yX8_must wsX8_must) := goodIn_app (goodIn_of _ (by decide +kernel)) ggX8_readLaw_X8_must
set_option maxRecDepth 20000 in
theorem ggX8_readLaw_X8_number : GoodIn wsX8_readLaw wsX8_number := goodIn_r _ [25, 9, 10, 11, 26, 27, 12, 13, 14, 7, 15, 16, 28, 29, 30, 17, 18, 19, 20, 21, 31, 32, 33, 34, 35, 36, 37, 38, 39, 40, 41, 42, 43, 44, 45, 46, 47, 48, 49, 50, 51, 52, 53, 54, 55, 56, 57, 58, 59, 60, 61, 62, 63] (by decide +kernel) (by decide +kernel)
set_option maxRecDepth 20000 in
theorem gX8_readLaw_X8_number : GoodIn wsX8_readLaw (wsV RX8 107 RX8 yX8_number wsX8_number) := goodIn_app (goodIn_of _ (by decide +kernel)) ggX8_readLaw_X8_number
theorem dX8_readLaw_0 : decode cX8_readLaw 0 = .ok (.aload_n 0, 1) := by decide +kernel
theorem dX8_readLaw_1 : decode cX8_readLaw 1 = .ok (.bipush 104, 2) := by decide +kernel
theorem dX8_readLaw_3 : decode cX8_readLaw 3 = .ok (.invokevirtual 103, 3) := by decide +kernel
theorem dX8_readLaw_6 : decode cX8_readLaw 6 = .ok (.aload_n 0, 1) := by decide +kernel
theorem dX8_readLaw_7 : decode cX8_readLaw 7 = .ok (.aload_n 0, 1) := by decide +kernel
theorem dX8_readLaw_8 : decode cX8_readLaw 8 = .ok (.iconst 1, 1) := by decide +kernel
theorem dX8_readLaw_9 : decode cX8_readLaw 9 = .ok (.bipush 9, 2) := by decide +kernel
theorem dX8_readLaw_11 : decode cX8_readLaw 11 = .ok (.invokevirtual 107, 3) := by decide +kernel
theorem dX8_readLaw_14 : decode cX8_readLaw 14 = .ok (.putfield 111, 3) := by decide +kernel
theorem dX8_readLaw_17 : decode cX8_readLaw 17 = .ok (.aload_n 0, 1) := by decide +kernel
theorem dX8_readLaw_18 : decode cX8_readLaw 18 = .ok (.bipush 44, 2) := by decide +kernel
theorem dX8_readLaw_20 : decode cX8_readLaw 20 = .ok (.invokevirtual 103, 3) := by decide +kernel
theorem dX8_readLaw_23 : decode cX8_readLaw 23 = .ok (.aload_n 0, 1) := by decide +kernel
theorem dX8_readLaw_24 : decode cX8_readLaw 24 = .ok (.aload_n 0, 1) := by decide +kernel
theorem dX8_readLaw_25 : decode cX8_readLaw 25 = .ok (.iconst 0, 1) := by decide +kernel
theorem dX8_readLaw_26 : decode cX8_readLaw 26 = .ok (.iconst 4, 1) := by decide +kernel
theorem dX8_readLaw_27 : decode cX8_readLaw 27 = .ok (.invokevirtual 107, 3) := by decide +kernel
theorem dX8_readLaw_30 : decode cX8_readLaw 30 = .ok (.iconst 2, 1) := by decide +kernel
theorem dX8_readLaw_31 : decode cX8_readLaw 31 = .ok (.isub, 1) := by decide +kernel
theorem dX8_readLaw_32 : decode cX8_readLaw 32 = .ok (.putfield 114, 3) := by decide +kernel
theorem dX8_readLaw_35 : decode cX8_readLaw 35 = .ok (.aload_n 0, 1) := by decide +kernel
theorem dX8_readLaw_36 : decode cX8_readLaw 36 = .ok (.bipush 44, 2) := by decide +kernel
theorem dX8_readLaw_38 : decode cX8_readLaw 38 = .ok (.invokevirtual 103, 3) := by decide +kernel
theorem dX8_readLaw_41 : decode cX8_readLaw 41 = .ok (.aload_n 0, 1) := by decide +kernel
theorem dX8_readLaw_42 : decode cX8_readLaw 42 = .ok (.getfield 25, 3) := by decide +kernel
theorem dX8_readLaw_45 : decode cX8_readLaw 45 = .ok (.iconst 2, 1) := by decide +kernel
theorem dX8_readLaw_46 : decode cX8_readLaw 46 = .ok (.aload_n 0, 1) := by decide +kernel
theorem dX8_readLaw_47 : decode cX8_readLaw 47 = .ok (.iconst 1, 1) := by decide +kernel
theorem dX8_readLaw_48 : decode cX8_readLaw 48 = .ok (.iconst 5, 1) := by decide +kernel
theorem dX8_readLaw_49 : decode cX8_readLaw 49 = .ok (.invokevirtual 107, 3) := by decide +kernel
theorem dX8_readLaw_52 : decode cX8_readLaw 52 = .ok (.iastore, 1) := by decide +kernel
theorem dX8_readLaw_53 : decode cX8_readLaw 53 = .ok (.aload_n 0, 1) := by decide +kernel
theorem dX8_readLaw_54 : decode cX8_readLaw 54 = .ok (.bipush 44, 2) := by decide +kernel
theorem dX8_readLaw_56 : decode cX8_readLaw 56 = .ok (.invokevirtual 103, 3) := by decide +kernel
theorem dX8_readLaw_59 : decode cX8_readLaw 59 = .ok (.aload_n 0, 1) := by decide +kernel
theorem dX8_readLaw_60 : decode cX8_readLaw 60 = .ok (.getfield 25, 3) := by decide +kernel
theorem dX8_readLaw_63 : decode cX8_readLaw 63 = .ok (.iconst 3, 1) := by decide +kernel
theorem dX8_readLaw_64 : decode cX8_readLaw 64 = .ok (.aload_n 0, 1) := by decide +kernel
theorem dX8_readLaw_65 : decode cX8_readLaw 65 = .ok (.iconst 0, 1) := by decide +kernel
theorem dX8_readLaw_66 : decode cX8_readLaw 66 = .ok (.iconst 3, 1) := by decide +kernel
theorem dX8_readLaw_67 : decode cX8_readLaw 67 = .ok (.invokevirtual 107, 3) := by decide +kernel
theorem dX8_readLaw_70 : decode cX8_readLaw 70 = .ok (.iastore, 1) := by decide +kernel
theorem dX8_readLaw_71 : decode cX8_readLaw 71 = .ok (.aload_n 0, 1) := by decide +kernel
theorem dX8_readLaw_72 : decode cX8_readLaw 72 = .ok (.bipush 59, 2) := by decide +kernel
theorem dX8_readLaw_74 : decode cX8_readLaw 74 = .ok (.invokevirtual 103, 3) := by decide +kernel
theorem dX8_readLaw_77 : decode cX8_readLaw 77 = .ok (.return_, 1) := by decide +kernel
set_option maxRecDepth 20000 in
theorem ggX8_readGrounds_X8_must : GoodIn wsX8_readGrounds wsX8_must := goodIn_r _ [9, 2, 3, 4, 10, 11, 12, 8, 13, 14, 15, 16, 17, 18, 19, 23, 24, 25, 26, 27, 28, 29, 30, 31, 32, 33, 34, 35, 36, 37, 38, 39, 40, 41, 42, 43, 44, 45, 46, 47, 48, 49, 50, 51, 52, 53, 54, 55] (by decide +kernel) (by decide +kernel)
set_option maxRecDepth 20000 in
theorem gX8_readGrounds_X8_must : GoodIn wsX8_readGrounds (wsV RX8 103 RX8 yX8_must wsX8_must) := goodIn_app (goodIn_of _ (by decide +kernel)) ggX8_readGrounds_X8_must
set_option maxRecDepth 20000 in
theorem ggX8_readGrounds_X8_here : GoodIn wsX8_readGrounds wsX8_here := goodIn_r _ [13, 3, 4, 14, 23, 24, 25, 26, 27, 28, 29, 30, 31, 32, 33, 34, 35, 36, 37, 38, 39, 40, 41, 42, 43, 44, 45, 46, 47, 48, 49, 50, 51, 52, 53, 54, 55] (by decide +kernel) (by decide +kernel)
set_option maxRecDepth 20000 in
theorem gX8_readGrounds_X8_here : GoodIn wsX8_readGrounds (wsV RX8 91 RX8 yX8_here wsX8_here) := goodIn_app (goodIn_of _ (by decide +kernel)) ggX8_readGrounds_X8_here
set_option maxRecDepth 20000 in
theorem ggX8_readGrounds_X8_groundOf : GoodIn wsX8_readGrounds wsX8_groundOf := goodIn_r _ [22] (by decide +kernel) (by decide +kernel)
set_option maxRecDepth 20000 in
theorem gX8_readGrounds_X8_groundOf : GoodIn wsX8_readGrounds (va_wsS RX8 117 yX8_groundOf wsX8_groundOf) := goodIn_app (goodIn_of _ (by decide +kernel)) ggX8_readGrounds_X8_groundOf
set_option maxRecDepth 20000 in
theorem ggX8_readGrounds_X8_wrong : GoodIn wsX8_readGrounds wsX8_wrong := goodIn_r _ [18, 2, 19, 23, 24, 25, 26, 27, 28, 29, 30, 31, 32, 33, 34, 35, 36, 37, 38, 39, 40, 41, 42, 43, 44, 45, 46, 47, 48, 49, 50, 51, 52, 53, 54, 55] (by decide +kernel) (by decide +kernel)
set_option maxRecDepth 20000 in
theorem gX8_readGrounds_X8_wrong : GoodIn wsX8_readGrounds (wsV RX8 95 RX8 yX8_wrong wsX8_wrong) := goodIn_app (goodIn_of _ (by decide +kernel)) ggX8_readGrounds_X8_wrong
theorem dX8_readGrounds_0 : decode cX8_readGrounds 0 = .ok (.aload_n 0, 1) := by decide +kernel
theorem dX8_readGrounds_1 : decode cX8_readGrounds 1 = .ok (.bipush 103, 2) := by decide +kernel
theorem dX8_readGrounds_3 : decode cX8_readGrounds 3 = .ok (.invokevirtual 103, 3) := by decide +kernel
theorem dX8_readGrounds_6 : decode cX8_readGrounds 6 = .ok (.aload_n 0, 1) := by decide +kernel
theorem dX8_readGrounds_7 : decode cX8_readGrounds 7 = .ok (.getfield 25, 3) := by decide +kernel
theorem dX8_readGrounds_10 : decode cX8_readGrounds 10 = .ok (.iconst 0, 1) := by decide +kernel
theorem dX8_readGrounds_11 : decode cX8_readGrounds 11 = .ok (.iconst 0, 1) := by decide +kernel
theorem dX8_readGrounds_12 : decode cX8_readGrounds 12 = .ok (.iastore, 1) := by decide +kernel
theorem dX8_readGrounds_13 : decode cX8_readGrounds 13 = .ok (.aload_n 0, 1) := by decide +kernel
theorem dX8_readGrounds_14 : decode cX8_readGrounds 14 = .ok (.getfield 85, 3) := by decide +kernel
theorem dX8_readGrounds_17 : decode cX8_readGrounds 17 = .ok (.ifCond .ne 78, 3) := by decide +kernel
theorem dX8_readGrounds_20 : decode cX8_readGrounds 20 = .ok (.aload_n 0, 1) := by decide +kernel
theorem dX8_readGrounds_21 : decode cX8_readGrounds 21 = .ok (.getfield 25, 3) := by decide +kernel
theorem dX8_readGrounds_24 : decode cX8_readGrounds 24 = .ok (.iconst 0, 1) := by decide +kernel
theorem dX8_readGrounds_25 : decode cX8_readGrounds 25 = .ok (.iaload, 1) := by decide +kernel
theorem dX8_readGrounds_26 : decode cX8_readGrounds 26 = .ok (.bipush 24, 2) := by decide +kernel
theorem dX8_readGrounds_28 : decode cX8_readGrounds 28 = .ok (.if_icmp .ge 67, 3) := by decide +kernel
theorem dX8_readGrounds_31 : decode cX8_readGrounds 31 = .ok (.aload_n 0, 1) := by decide +kernel
theorem dX8_readGrounds_32 : decode cX8_readGrounds 32 = .ok (.getfield 82, 3) := by decide +kernel
theorem dX8_readGrounds_35 : decode cX8_readGrounds 35 = .ok (.aload_n 0, 1) := by decide +kernel
theorem dX8_readGrounds_36 : decode cX8_readGrounds 36 = .ok (.getfield 78, 3) := by decide +kernel
theorem dX8_readGrounds_39 : decode cX8_readGrounds 39 = .ok (.if_icmp .ge 56, 3) := by decide +kernel
theorem dX8_readGrounds_42 : decode cX8_readGrounds 42 = .ok (.aload_n 0, 1) := by decide +kernel
theorem dX8_readGrounds_43 : decode cX8_readGrounds 43 = .ok (.invokevirtual 91, 3) := by decide +kernel
theorem dX8_readGrounds_46 : decode cX8_readGrounds 46 = .ok (.invokestatic 117, 3) := by decide +kernel
theorem dX8_readGrounds_49 : decode cX8_readGrounds 49 = .ok (.ifCond .lt 46, 3) := by decide +kernel
theorem dX8_readGrounds_52 : decode cX8_readGrounds 52 = .ok (.aload_n 0, 1) := by decide +kernel
theorem dX8_readGrounds_53 : decode cX8_readGrounds 53 = .ok (.getfield 25, 3) := by decide +kernel
theorem dX8_readGrounds_56 : decode cX8_readGrounds 56 = .ok (.iconst 4, 1) := by decide +kernel
theorem dX8_readGrounds_57 : decode cX8_readGrounds 57 = .ok (.aload_n 0, 1) := by decide +kernel
theorem dX8_readGrounds_58 : decode cX8_readGrounds 58 = .ok (.getfield 25, 3) := by decide +kernel
theorem dX8_readGrounds_61 : decode cX8_readGrounds 61 = .ok (.iconst 0, 1) := by decide +kernel
theorem dX8_readGrounds_62 : decode cX8_readGrounds 62 = .ok (.iaload, 1) := by decide +kernel
theorem dX8_readGrounds_63 : decode cX8_readGrounds 63 = .ok (.iadd, 1) := by decide +kernel
theorem dX8_readGrounds_64 : decode cX8_readGrounds 64 = .ok (.aload_n 0, 1) := by decide +kernel
theorem dX8_readGrounds_65 : decode cX8_readGrounds 65 = .ok (.invokevirtual 91, 3) := by decide +kernel
theorem dX8_readGrounds_68 : decode cX8_readGrounds 68 = .ok (.invokestatic 117, 3) := by decide +kernel
theorem dX8_readGrounds_71 : decode cX8_readGrounds 71 = .ok (.iastore, 1) := by decide +kernel
theorem dX8_readGrounds_72 : decode cX8_readGrounds 72 = .ok (.aload_n 0, 1) := by decide +kernel
theorem dX8_readGrounds_73 : decode cX8_readGrounds 73 = .ok (.getfield 25, 3) := by decide +kernel
theorem dX8_readGrounds_76 : decode cX8_readGrounds 76 = .ok (.iconst 0, 1) := by decide +kernel
theorem dX8_readGrounds_77 : decode cX8_readGrounds 77 = .ok (.dup2, 1) := by decide +kernel
theorem dX8_readGrounds_78 : decode cX8_readGrounds 78 = .ok (.iaload, 1) := by decide +kernel
theorem dX8_readGrounds_79 : decode cX8_readGrounds 79 = .ok (.iconst 1, 1) := by decide +kernel
theorem dX8_readGrounds_80 : decode cX8_readGrounds 80 = .ok (.iadd, 1) := by decide +kernel
theorem dX8_readGrounds_81 : decode cX8_readGrounds 81 = .ok (.iastore, 1) := by decide +kernel
theorem dX8_readGrounds_82 : decode cX8_readGrounds 82 = .ok (.aload_n 0, 1) := by decide +kernel
theorem dX8_readGrounds_83 : decode cX8_readGrounds 83 = .ok (.dup, 1) := by decide +kernel
theorem dX8_readGrounds_84 : decode cX8_readGrounds 84 = .ok (.getfield 82, 3) := by decide +kernel
theorem dX8_readGrounds_87 : decode cX8_readGrounds 87 = .ok (.iconst 1, 1) := by decide +kernel
theorem dX8_readGrounds_88 : decode cX8_readGrounds 88 = .ok (.iadd, 1) := by decide +kernel
theorem dX8_readGrounds_89 : decode cX8_readGrounds 89 = .ok (.putfield 82, 3) := by decide +kernel
theorem dX8_readGrounds_92 : decode cX8_readGrounds 92 = .ok (.goto (-79), 3) := by decide +kernel
theorem dX8_readGrounds_95 : decode cX8_readGrounds 95 = .ok (.aload_n 0, 1) := by decide +kernel
theorem dX8_readGrounds_96 : decode cX8_readGrounds 96 = .ok (.getfield 85, 3) := by decide +kernel
theorem dX8_readGrounds_99 : decode cX8_readGrounds 99 = .ok (.ifCond .ne 21, 3) := by decide +kernel
theorem dX8_readGrounds_102 : decode cX8_readGrounds 102 = .ok (.aload_n 0, 1) := by decide +kernel
theorem dX8_readGrounds_103 : decode cX8_readGrounds 103 = .ok (.getfield 25, 3) := by decide +kernel
theorem dX8_readGrounds_106 : decode cX8_readGrounds 106 = .ok (.iconst 0, 1) := by decide +kernel
theorem dX8_readGrounds_107 : decode cX8_readGrounds 107 = .ok (.iaload, 1) := by decide +kernel
theorem dX8_readGrounds_108 : decode cX8_readGrounds 108 = .ok (.ifCond .ne 12, 3) := by decide +kernel
theorem dX8_readGrounds_111 : decode cX8_readGrounds 111 = .ok (.aload_n 0, 1) := by decide +kernel
theorem dX8_readGrounds_112 : decode cX8_readGrounds 112 = .ok (.iconst 1, 1) := by decide +kernel
theorem dX8_readGrounds_113 : decode cX8_readGrounds 113 = .ok (.aload_n 0, 1) := by decide +kernel
theorem dX8_readGrounds_114 : decode cX8_readGrounds 114 = .ok (.getfield 82, 3) := by decide +kernel
theorem dX8_readGrounds_117 : decode cX8_readGrounds 117 = .ok (.invokevirtual 95, 3) := by decide +kernel
theorem dX8_readGrounds_120 : decode cX8_readGrounds 120 = .ok (.aload_n 0, 1) := by decide +kernel
theorem dX8_readGrounds_121 : decode cX8_readGrounds 121 = .ok (.bipush 59, 2) := by decide +kernel
theorem dX8_readGrounds_123 : decode cX8_readGrounds 123 = .ok (.invokevirtual 103, 3) := by decide +kernel
theorem dX8_readGrounds_126 : decode cX8_readGrounds 126 = .ok (.return_, 1) := by decide +kernel
set_option maxRecDepth 20000 in
theorem ggX8_readTap_X8_here : GoodIn wsX8_readTap wsX8_here := goodIn_r _ [8, 1, 9, 10, 32, 33, 34, 35, 36, 37, 38, 39, 40, 41, 42, 43, 44, 45, 46, 47, 48, 49, 50, 51, 52, 53, 54, 55, 56, 57, 58, 59, 60, 61, 62, 63, 64] (by decide +kernel) (by decide +kernel)
set_option maxRecDepth 20000 in
theorem gX8_readTap_X8_here : GoodIn wsX8_readTap (wsV RX8 91 RX8 yX8_here wsX8_here) := goodIn_app (goodIn_of _ (by decide +kernel)) ggX8_readTap_X8_here
set_option maxRecDepth 20000 in
theorem ggX8_readTap_X8_kindOf : GoodIn wsX8_readTap wsX8_kindOf := goodIn_r _ [13] (by decide +kernel) (by decide +kernel)
set_option maxRecDepth 20000 in
theorem gX8_readTap_X8_kindOf : GoodIn wsX8_readTap (va_wsS RX8 120 yX8_kindOf wsX8_kindOf) := goodIn_app (goodIn_of _ (by decide +kernel)) ggX8_readTap_X8_kindOf
set_option maxRecDepth 20000 in
theorem ggX8_readTap_X8_wrong : GoodIn wsX8_readTap wsX8_wrong := goodIn_r _ [17, 3, 18, 32, 33, 34, 35, 36, 37, 38, 39, 40, 41, 42, 43, 44, 45, 46, 47, 48, 49, 50, 51, 52, 53, 54, 55, 56, 57, 58, 59, 60, 61, 62, 63, 64] (by decide +kernel) (by decide +kernel)
set_option maxRecDepth 20000 in
theorem gX8_readTap_X8_wrong : GoodIn wsX8_readTap (wsV RX8 95 RX8 yX8_wrong wsX8_wrong) := goodIn_app (goodIn_of _ (by decide +kernel)) ggX8_readTap_X8_wrong
set_option maxRecDepth 20000 in
theorem ggX8_readTap_X8_number : GoodIn wsX8_readTap wsX8_number := goodIn_r _ [22, 3, 1, 9, 23, 24, 4, 5, 6, 7, 8, 10, 25, 26, 27, 14, 15, 16, 17, 18, 32, 33, 34, 35, 36, 37, 38, 39, 40, 41, 42, 43, 44, 45, 46, 47, 48, 49, 50, 51, 52, 53, 54, 55, 56, 57, 58, 59, 60, 61, 62, 63, 64] (by decide +kernel) (by decide +kernel)
set_option maxRecDepth 20000 in
theorem gX8_readTap_X8_number : GoodIn wsX8_readTap (wsV RX8 107 RX8 yX8_number wsX8_number) := goodIn_app (goodIn_of _ (by decide +kernel)) ggX8_readTap_X8_number
set_option maxRecDepth 20000 in
theorem ggX8_readTap_X8_must : GoodIn wsX8_readTap wsX8_must := goodIn_r _ [31, 3, 1, 9, 4, 5, 6, 7, 8, 10, 14, 15, 16, 17, 18, 32, 33, 34, 35, 36, 37, 38, 39, 40, 41, 42, 43, 44, 45, 46, 47, 48, 49, 50, 51, 52, 53, 54, 55, 56, 57, 58, 59, 60, 61, 62, 63, 64] (by decide +kernel) (by decide +kernel)
set_option maxRecDepth 20000 in
theorem gX8_readTap_X8_must : GoodIn wsX8_readTap (wsV RX8 103 RX8 yX8_must wsX8_must) := goodIn_app (goodIn_of _ (by decide +kernel)) ggX8_readTap_X8_must
theorem dX8_readTap_0 : decode cX8_readTap 0 = .ok (.aload_n 0, 1) := by decide +kernel
theorem dX8_readTap_1 : decode cX8_readTap 1 = .ok (.invokevirtual 91, 3) := by decide +kernel
theorem dX8_readTap_4 : decode cX8_readTap 4 = .ok (.invokestatic 120, 3) := by decide +kernel
theorem dX8_readTap_7 : decode cX8_readTap 7 = .ok (.istore_n 1, 1) := by decide +kernel
theorem dX8_readTap_8 : decode cX8_readTap 8 = .ok (.iload_n 1, 1) := by decide +kernel
theorem dX8_readTap_9 : decode cX8_readTap 9 = .ok (.ifCond .ge 15, 3) := by decide +kernel
theorem dX8_readTap_12 : decode cX8_readTap 12 = .ok (.aload_n 0, 1) := by decide +kernel
theorem dX8_readTap_13 : decode cX8_readTap 13 = .ok (.iconst 1, 1) := by decide +kernel
theorem dX8_readTap_14 : decode cX8_readTap 14 = .ok (.aload_n 0, 1) := by decide +kernel
theorem dX8_readTap_15 : decode cX8_readTap 15 = .ok (.getfield 82, 3) := by decide +kernel
theorem dX8_readTap_18 : decode cX8_readTap 18 = .ok (.invokevirtual 95, 3) := by decide +kernel
theorem dX8_readTap_21 : decode cX8_readTap 21 = .ok (.goto 22, 3) := by decide +kernel
theorem dX8_readTap_24 : decode cX8_readTap 24 = .ok (.aload_n 0, 1) := by decide +kernel
theorem dX8_readTap_25 : decode cX8_readTap 25 = .ok (.getfield 25, 3) := by decide +kernel
theorem dX8_readTap_28 : decode cX8_readTap 28 = .ok (.iconst 1, 1) := by decide +kernel
theorem dX8_readTap_29 : decode cX8_readTap 29 = .ok (.iaload, 1) := by decide +kernel
theorem dX8_readTap_30 : decode cX8_readTap 30 = .ok (.iconst 5, 1) := by decide +kernel
theorem dX8_readTap_31 : decode cX8_readTap 31 = .ok (.if_icmp .ne 12, 3) := by decide +kernel
theorem dX8_readTap_34 : decode cX8_readTap 34 = .ok (.aload_n 0, 1) := by decide +kernel
theorem dX8_readTap_35 : decode cX8_readTap 35 = .ok (.iconst 3, 1) := by decide +kernel
theorem dX8_readTap_36 : decode cX8_readTap 36 = .ok (.aload_n 0, 1) := by decide +kernel
theorem dX8_readTap_37 : decode cX8_readTap 37 = .ok (.getfield 82, 3) := by decide +kernel
theorem dX8_readTap_40 : decode cX8_readTap 40 = .ok (.invokevirtual 95, 3) := by decide +kernel
theorem dX8_readTap_43 : decode cX8_readTap 43 = .ok (.aload_n 0, 1) := by decide +kernel
theorem dX8_readTap_44 : decode cX8_readTap 44 = .ok (.getfield 85, 3) := by decide +kernel
theorem dX8_readTap_47 : decode cX8_readTap 47 = .ok (.ifCond .ne 70, 3) := by decide +kernel
theorem dX8_readTap_50 : decode cX8_readTap 50 = .ok (.aload_n 0, 1) := by decide +kernel
theorem dX8_readTap_51 : decode cX8_readTap 51 = .ok (.dup, 1) := by decide +kernel
theorem dX8_readTap_52 : decode cX8_readTap 52 = .ok (.getfield 82, 3) := by decide +kernel
theorem dX8_readTap_55 : decode cX8_readTap 55 = .ok (.iconst 1, 1) := by decide +kernel
theorem dX8_readTap_56 : decode cX8_readTap 56 = .ok (.iadd, 1) := by decide +kernel
theorem dX8_readTap_57 : decode cX8_readTap 57 = .ok (.putfield 82, 3) := by decide +kernel
theorem dX8_readTap_60 : decode cX8_readTap 60 = .ok (.aload_n 0, 1) := by decide +kernel
theorem dX8_readTap_61 : decode cX8_readTap 61 = .ok (.getfield 25, 3) := by decide +kernel
theorem dX8_readTap_64 : decode cX8_readTap 64 = .ok (.bipush 28, 2) := by decide +kernel
theorem dX8_readTap_66 : decode cX8_readTap 66 = .ok (.iconst 2, 1) := by decide +kernel
theorem dX8_readTap_67 : decode cX8_readTap 67 = .ok (.aload_n 0, 1) := by decide +kernel
theorem dX8_readTap_68 : decode cX8_readTap 68 = .ok (.getfield 25, 3) := by decide +kernel
theorem dX8_readTap_71 : decode cX8_readTap 71 = .ok (.iconst 1, 1) := by decide +kernel
theorem dX8_readTap_72 : decode cX8_readTap 72 = .ok (.iaload, 1) := by decide +kernel
theorem dX8_readTap_73 : decode cX8_readTap 73 = .ok (.imul, 1) := by decide +kernel
theorem dX8_readTap_74 : decode cX8_readTap 74 = .ok (.iadd, 1) := by decide +kernel
theorem dX8_readTap_75 : decode cX8_readTap 75 = .ok (.iload_n 1, 1) := by decide +kernel
theorem dX8_readTap_76 : decode cX8_readTap 76 = .ok (.iastore, 1) := by decide +kernel
theorem dX8_readTap_77 : decode cX8_readTap 77 = .ok (.aload_n 0, 1) := by decide +kernel
theorem dX8_readTap_78 : decode cX8_readTap 78 = .ok (.getfield 25, 3) := by decide +kernel
theorem dX8_readTap_81 : decode cX8_readTap 81 = .ok (.bipush 28, 2) := by decide +kernel
theorem dX8_readTap_83 : decode cX8_readTap 83 = .ok (.iconst 2, 1) := by decide +kernel
theorem dX8_readTap_84 : decode cX8_readTap 84 = .ok (.aload_n 0, 1) := by decide +kernel
theorem dX8_readTap_85 : decode cX8_readTap 85 = .ok (.getfield 25, 3) := by decide +kernel
theorem dX8_readTap_88 : decode cX8_readTap 88 = .ok (.iconst 1, 1) := by decide +kernel
theorem dX8_readTap_89 : decode cX8_readTap 89 = .ok (.iaload, 1) := by decide +kernel
theorem dX8_readTap_90 : decode cX8_readTap 90 = .ok (.imul, 1) := by decide +kernel
theorem dX8_readTap_91 : decode cX8_readTap 91 = .ok (.iadd, 1) := by decide +kernel
theorem dX8_readTap_92 : decode cX8_readTap 92 = .ok (.iconst 1, 1) := by decide +kernel
theorem dX8_readTap_93 : decode cX8_readTap 93 = .ok (.iadd, 1) := by decide +kernel
theorem dX8_readTap_94 : decode cX8_readTap 94 = .ok (.aload_n 0, 1) := by decide +kernel
theorem dX8_readTap_95 : decode cX8_readTap 95 = .ok (.iconst 1, 1) := by decide +kernel
theorem dX8_readTap_96 : decode cX8_readTap 96 = .ok (.iconst 5, 1) := by decide +kernel
theorem dX8_readTap_97 : decode cX8_readTap 97 = .ok (.invokevirtual 107, 3) := by decide +kernel
theorem dX8_readTap_100 : decode cX8_readTap 100 = .ok (.iastore, 1) := by decide +kernel
theorem dX8_readTap_101 : decode cX8_readTap 101 = .ok (.aload_n 0, 1) := by decide +kernel
theorem dX8_readTap_102 : decode cX8_readTap 102 = .ok (.bipush 59, 2) := by decide +kernel
theorem dX8_readTap_104 : decode cX8_readTap 104 = .ok (.invokevirtual 103, 3) := by decide +kernel
theorem dX8_readTap_107 : decode cX8_readTap 107 = .ok (.aload_n 0, 1) := by decide +kernel
theorem dX8_readTap_108 : decode cX8_readTap 108 = .ok (.getfield 25, 3) := by decide +kernel
theorem dX8_readTap_111 : decode cX8_readTap 111 = .ok (.iconst 1, 1) := by decide +kernel
theorem dX8_readTap_112 : decode cX8_readTap 112 = .ok (.dup2, 1) := by decide +kernel
theorem dX8_readTap_113 : decode cX8_readTap 113 = .ok (.iaload, 1) := by decide +kernel
theorem dX8_readTap_114 : decode cX8_readTap 114 = .ok (.iconst 1, 1) := by decide +kernel
theorem dX8_readTap_115 : decode cX8_readTap 115 = .ok (.iadd, 1) := by decide +kernel
theorem dX8_readTap_116 : decode cX8_readTap 116 = .ok (.iastore, 1) := by decide +kernel
theorem dX8_readTap_117 : decode cX8_readTap 117 = .ok (.return_, 1) := by decide +kernel
set_option maxRecDepth 20000 in
theorem ggX8_lane_X8_readLaw : GoodIn wsX8_lane wsX8_readLaw := goodIn_r _ [18, 10, 11, 3, 19, 20, 21, 17, 22, 2, 1, 4, 23, 24, 25, 26, 27, 28, 29, 30, 31, 7, 32, 33, 34, 35, 36, 37, 38, 39, 40, 63, 64, 65, 66, 67, 68, 69, 70, 71, 72, 73, 74, 75, 76, 77, 78, 79, 80, 81, 82, 83, 84, 85, 86, 87, 88, 89, 90, 91, 92, 93, 94, 95] (by decide +kernel) (by decide +kernel)
set_option maxRecDepth 20000 in
theorem gX8_lane_X8_readLaw : GoodIn wsX8_lane (wsV RX8 123 RX8 yX8_readLaw wsX8_readLaw) := goodIn_app (goodIn_of _ (by decide +kernel)) ggX8_lane_X8_readLaw
set_option maxRecDepth 20000 in
theorem ggX8_lane_X8_readGrounds : GoodIn wsX8_lane wsX8_readGrounds := goodIn_r _ [44, 3, 2, 1, 4, 19, 20, 21, 17, 22, 23, 24, 25, 26, 27, 28, 29, 30, 31, 7, 45, 46, 47, 63, 64, 65, 66, 67, 68, 69, 70, 71, 72, 73, 74, 75, 76, 77, 78, 79, 80, 81, 82, 83, 84, 85, 86, 87, 88, 89, 90, 91, 92, 93, 94, 95] (by decide +kernel) (by decide +kernel)
set_option maxRecDepth 20000 in
theorem gX8_lane_X8_readGrounds : GoodIn wsX8_lane (wsV RX8 126 RX8 yX8_readGrounds wsX8_readGrounds) := goodIn_app (goodIn_of _ (by decide +kernel)) ggX8_lane_X8_readGrounds
set_option maxRecDepth 20000 in
theorem ggX8_lane_X8_readTap : GoodIn wsX8_lane wsX8_readTap := goodIn_r _ [51, 1, 3, 2, 23, 24, 25, 17, 26, 4, 27, 52, 53, 54, 28, 29, 30, 31, 7, 32, 33, 34, 35, 36, 37, 38, 39, 40, 19, 20, 21, 22, 63, 64, 65, 66, 67, 68, 69, 70, 71, 72, 73, 74, 75, 76, 77, 78, 79, 80, 81, 82, 83, 84, 85, 86, 87, 88, 89, 90, 91, 92, 93, 94, 95] (by decide +kernel) (by decide +kernel)
set_option maxRecDepth 20000 in
theorem gX8_lane_X8_readTap : GoodIn wsX8_lane (wsV RX8 129 RX8 yX8_readTap wsX8_readTap) := goodIn_app (goodIn_of _ (by decide +kernel)) ggX8_lane_X8_readTap
set_option maxRecDepth 20000 in
theorem ggX8_lane_X8_puts : GoodIn wsX8_lane wsX8_puts := goodIn_r _ [58, 59, 60, 61, 62, 63, 64, 65, 66, 67, 68, 69, 70, 71, 72, 73, 74, 75, 76, 77, 78, 79, 80, 81, 82, 83, 84, 85, 86, 87, 88, 89, 90, 91, 92, 93, 94, 95] (by decide +kernel) (by decide +kernel)
set_option maxRecDepth 20000 in
theorem gX8_lane_X8_puts : GoodIn wsX8_lane (wsV RX8 140 RX8 yX8_puts wsX8_puts) := goodIn_app (goodIn_of _ (by decide +kernel)) ggX8_lane_X8_puts
theorem dX8_lane_0 : decode cX8_lane 0 = .ok (.aload_n 0, 1) := by decide +kernel
theorem dX8_lane_1 : decode cX8_lane 1 = .ok (.iconst 0, 1) := by decide +kernel
theorem dX8_lane_2 : decode cX8_lane 2 = .ok (.putfield 82, 3) := by decide +kernel
theorem dX8_lane_5 : decode cX8_lane 5 = .ok (.aload_n 0, 1) := by decide +kernel
theorem dX8_lane_6 : decode cX8_lane 6 = .ok (.iconst 0, 1) := by decide +kernel
theorem dX8_lane_7 : decode cX8_lane 7 = .ok (.putfield 85, 3) := by decide +kernel
theorem dX8_lane_10 : decode cX8_lane 10 = .ok (.iconst 0, 1) := by decide +kernel
theorem dX8_lane_11 : decode cX8_lane 11 = .ok (.istore_n 1, 1) := by decide +kernel
theorem dX8_lane_12 : decode cX8_lane 12 = .ok (.iload_n 1, 1) := by decide +kernel
theorem dX8_lane_13 : decode cX8_lane 13 = .ok (.bipush 38, 2) := by decide +kernel
theorem dX8_lane_15 : decode cX8_lane 15 = .ok (.if_icmp .ge 16, 3) := by decide +kernel
theorem dX8_lane_18 : decode cX8_lane 18 = .ok (.aload_n 0, 1) := by decide +kernel
theorem dX8_lane_19 : decode cX8_lane 19 = .ok (.getfield 25, 3) := by decide +kernel
theorem dX8_lane_22 : decode cX8_lane 22 = .ok (.iload_n 1, 1) := by decide +kernel
theorem dX8_lane_23 : decode cX8_lane 23 = .ok (.iconst 0, 1) := by decide +kernel
theorem dX8_lane_24 : decode cX8_lane 24 = .ok (.iastore, 1) := by decide +kernel
theorem dX8_lane_25 : decode cX8_lane 25 = .ok (.iinc 1 1, 3) := by decide +kernel
theorem dX8_lane_28 : decode cX8_lane 28 = .ok (.goto (-16), 3) := by decide +kernel
theorem dX8_lane_31 : decode cX8_lane 31 = .ok (.aload_n 0, 1) := by decide +kernel
theorem dX8_lane_32 : decode cX8_lane 32 = .ok (.invokevirtual 123, 3) := by decide +kernel
theorem dX8_lane_35 : decode cX8_lane 35 = .ok (.aload_n 0, 1) := by decide +kernel
theorem dX8_lane_36 : decode cX8_lane 36 = .ok (.invokevirtual 126, 3) := by decide +kernel
theorem dX8_lane_39 : decode cX8_lane 39 = .ok (.aload_n 0, 1) := by decide +kernel
theorem dX8_lane_40 : decode cX8_lane 40 = .ok (.getfield 85, 3) := by decide +kernel
theorem dX8_lane_43 : decode cX8_lane 43 = .ok (.ifCond .ne 21, 3) := by decide +kernel
theorem dX8_lane_46 : decode cX8_lane 46 = .ok (.aload_n 0, 1) := by decide +kernel
theorem dX8_lane_47 : decode cX8_lane 47 = .ok (.getfield 82, 3) := by decide +kernel
theorem dX8_lane_50 : decode cX8_lane 50 = .ok (.aload_n 0, 1) := by decide +kernel
theorem dX8_lane_51 : decode cX8_lane 51 = .ok (.getfield 78, 3) := by decide +kernel
theorem dX8_lane_54 : decode cX8_lane 54 = .ok (.if_icmp .ge 10, 3) := by decide +kernel
theorem dX8_lane_57 : decode cX8_lane 57 = .ok (.aload_n 0, 1) := by decide +kernel
theorem dX8_lane_58 : decode cX8_lane 58 = .ok (.invokevirtual 129, 3) := by decide +kernel
theorem dX8_lane_61 : decode cX8_lane 61 = .ok (.goto (-22), 3) := by decide +kernel
theorem dX8_lane_64 : decode cX8_lane 64 = .ok (.aload_n 0, 1) := by decide +kernel
theorem dX8_lane_65 : decode cX8_lane 65 = .ok (.iconst 0, 1) := by decide +kernel
theorem dX8_lane_66 : decode cX8_lane 66 = .ok (.putfield 78, 3) := by decide +kernel
theorem dX8_lane_69 : decode cX8_lane 69 = .ok (.aload_n 0, 1) := by decide +kernel
theorem dX8_lane_70 : decode cX8_lane 70 = .ok (.getfield 85, 3) := by decide +kernel
theorem dX8_lane_73 : decode cX8_lane 73 = .ok (.ifCond .eq 19, 3) := by decide +kernel
theorem dX8_lane_76 : decode cX8_lane 76 = .ok (.aload_n 0, 1) := by decide +kernel
theorem dX8_lane_77 : decode cX8_lane 77 = .ok (.aload_n 0, 1) := by decide +kernel
theorem dX8_lane_78 : decode cX8_lane 78 = .ok (.getfield 85, 3) := by decide +kernel
theorem dX8_lane_81 : decode cX8_lane 81 = .ok (.putfield 132, 3) := by decide +kernel
theorem dX8_lane_84 : decode cX8_lane 84 = .ok (.ldc 135, 2) := by decide +kernel
theorem dX8_lane_86 : decode cX8_lane 86 = .ok (.aload_n 0, 1) := by decide +kernel
theorem dX8_lane_87 : decode cX8_lane 87 = .ok (.getfield 88, 3) := by decide +kernel
theorem dX8_lane_90 : decode cX8_lane 90 = .ok (.isub, 1) := by decide +kernel
theorem dX8_lane_91 : decode cX8_lane 91 = .ok (.ireturn, 1) := by decide +kernel
theorem dX8_lane_92 : decode cX8_lane 92 = .ok (.iconst 0, 1) := by decide +kernel
theorem dX8_lane_93 : decode cX8_lane 93 = .ok (.istore_n 1, 1) := by decide +kernel
theorem dX8_lane_94 : decode cX8_lane 94 = .ok (.iload_n 1, 1) := by decide +kernel
theorem dX8_lane_95 : decode cX8_lane 95 = .ok (.bipush 38, 2) := by decide +kernel
theorem dX8_lane_97 : decode cX8_lane 97 = .ok (.if_icmp .ge 21, 3) := by decide +kernel
theorem dX8_lane_100 : decode cX8_lane 100 = .ok (.aload_n 0, 1) := by decide +kernel
theorem dX8_lane_101 : decode cX8_lane 101 = .ok (.getfield 22, 3) := by decide +kernel
theorem dX8_lane_104 : decode cX8_lane 104 = .ok (.iload_n 1, 1) := by decide +kernel
theorem dX8_lane_105 : decode cX8_lane 105 = .ok (.aload_n 0, 1) := by decide +kernel
theorem dX8_lane_106 : decode cX8_lane 106 = .ok (.getfield 25, 3) := by decide +kernel
theorem dX8_lane_109 : decode cX8_lane 109 = .ok (.iload_n 1, 1) := by decide +kernel
theorem dX8_lane_110 : decode cX8_lane 110 = .ok (.iaload, 1) := by decide +kernel
theorem dX8_lane_111 : decode cX8_lane 111 = .ok (.iastore, 1) := by decide +kernel
theorem dX8_lane_112 : decode cX8_lane 112 = .ok (.iinc 1 1, 3) := by decide +kernel
theorem dX8_lane_115 : decode cX8_lane 115 = .ok (.goto (-21), 3) := by decide +kernel
theorem dX8_lane_118 : decode cX8_lane 118 = .ok (.aload_n 0, 1) := by decide +kernel
theorem dX8_lane_119 : decode cX8_lane 119 = .ok (.iconst 1, 1) := by decide +kernel
theorem dX8_lane_120 : decode cX8_lane 120 = .ok (.putfield 136, 3) := by decide +kernel
theorem dX8_lane_123 : decode cX8_lane 123 = .ok (.aload_n 0, 1) := by decide +kernel
theorem dX8_lane_124 : decode cX8_lane 124 = .ok (.iconst 0, 1) := by decide +kernel
theorem dX8_lane_125 : decode cX8_lane 125 = .ok (.aload_n 0, 1) := by decide +kernel
theorem dX8_lane_126 : decode cX8_lane 126 = .ok (.getfield 111, 3) := by decide +kernel
theorem dX8_lane_129 : decode cX8_lane 129 = .ok (.aload_n 0, 1) := by decide +kernel
theorem dX8_lane_130 : decode cX8_lane 130 = .ok (.getfield 114, 3) := by decide +kernel
theorem dX8_lane_133 : decode cX8_lane 133 = .ok (.iconst 0, 1) := by decide +kernel
theorem dX8_lane_134 : decode cX8_lane 134 = .ok (.invokevirtual 140, 3) := by decide +kernel
theorem dX8_lane_137 : decode cX8_lane 137 = .ok (.aload_n 0, 1) := by decide +kernel
theorem dX8_lane_138 : decode cX8_lane 138 = .ok (.iconst 0, 1) := by decide +kernel
theorem dX8_lane_139 : decode cX8_lane 139 = .ok (.putfield 144, 3) := by decide +kernel
theorem dX8_lane_142 : decode cX8_lane 142 = .ok (.aload_n 0, 1) := by decide +kernel
theorem dX8_lane_143 : decode cX8_lane 143 = .ok (.iconst 0, 1) := by decide +kernel
theorem dX8_lane_144 : decode cX8_lane 144 = .ok (.putfield 147, 3) := by decide +kernel
theorem dX8_lane_147 : decode cX8_lane 147 = .ok (.aload_n 0, 1) := by decide +kernel
theorem dX8_lane_148 : decode cX8_lane 148 = .ok (.getfield 22, 3) := by decide +kernel
theorem dX8_lane_151 : decode cX8_lane 151 = .ok (.iconst 1, 1) := by decide +kernel
theorem dX8_lane_152 : decode cX8_lane 152 = .ok (.iaload, 1) := by decide +kernel
theorem dX8_lane_153 : decode cX8_lane 153 = .ok (.ireturn, 1) := by decide +kernel
theorem dX8_fault_0 : decode cX8_fault 0 = .ok (.aload_n 0, 1) := by decide +kernel
theorem dX8_fault_1 : decode cX8_fault 1 = .ok (.getfield 132, 3) := by decide +kernel
theorem dX8_fault_4 : decode cX8_fault 4 = .ok (.ireturn, 1) := by decide +kernel
theorem dX8_puts_0 : decode cX8_puts 0 = .ok (.aload_n 0, 1) := by decide +kernel
theorem dX8_puts_1 : decode cX8_puts 1 = .ok (.iload_n 1, 1) := by decide +kernel
theorem dX8_puts_2 : decode cX8_puts 2 = .ok (.putfield 150, 3) := by decide +kernel
theorem dX8_puts_5 : decode cX8_puts 5 = .ok (.aload_n 0, 1) := by decide +kernel
theorem dX8_puts_6 : decode cX8_puts 6 = .ok (.iload_n 2, 1) := by decide +kernel
theorem dX8_puts_7 : decode cX8_puts 7 = .ok (.putfield 153, 3) := by decide +kernel
theorem dX8_puts_10 : decode cX8_puts 10 = .ok (.aload_n 0, 1) := by decide +kernel
theorem dX8_puts_11 : decode cX8_puts 11 = .ok (.iload_n 3, 1) := by decide +kernel
theorem dX8_puts_12 : decode cX8_puts 12 = .ok (.putfield 156, 3) := by decide +kernel
theorem dX8_puts_15 : decode cX8_puts 15 = .ok (.aload_n 0, 1) := by decide +kernel
theorem dX8_puts_16 : decode cX8_puts 16 = .ok (.iload 4, 2) := by decide +kernel
theorem dX8_puts_18 : decode cX8_puts 18 = .ok (.putfield 159, 3) := by decide +kernel
theorem dX8_puts_21 : decode cX8_puts 21 = .ok (.return_, 1) := by decide +kernel
set_option maxRecDepth 20000 in
theorem ggX8_isTap_X8_in : GoodIn wsX8_isTap wsX8_in := goodIn_r _ [5] (by decide +kernel) (by decide +kernel)
set_option maxRecDepth 20000 in
theorem gX8_isTap_X8_in : GoodIn wsX8_isTap (va_wsS RX8 54 yX8_in wsX8_in) := goodIn_app (goodIn_of _ (by decide +kernel)) ggX8_isTap_X8_in
theorem dX8_isTap_0 : decode cX8_isTap 0 = .ok (.iload_n 1, 1) := by decide +kernel
theorem dX8_isTap_1 : decode cX8_isTap 1 = .ok (.i2l, 1) := by decide +kernel
theorem dX8_isTap_2 : decode cX8_isTap 2 = .ok (.lconst 0, 1) := by decide +kernel
theorem dX8_isTap_3 : decode cX8_isTap 3 = .ok (.aload_n 0, 1) := by decide +kernel
theorem dX8_isTap_4 : decode cX8_isTap 4 = .ok (.getfield 22, 3) := by decide +kernel
theorem dX8_isTap_7 : decode cX8_isTap 7 = .ok (.iconst 1, 1) := by decide +kernel
theorem dX8_isTap_8 : decode cX8_isTap 8 = .ok (.iaload, 1) := by decide +kernel
theorem dX8_isTap_9 : decode cX8_isTap 9 = .ok (.iconst 1, 1) := by decide +kernel
theorem dX8_isTap_10 : decode cX8_isTap 10 = .ok (.isub, 1) := by decide +kernel
theorem dX8_isTap_11 : decode cX8_isTap 11 = .ok (.i2l, 1) := by decide +kernel
theorem dX8_isTap_12 : decode cX8_isTap 12 = .ok (.invokestatic 54, 3) := by decide +kernel
theorem dX8_isTap_15 : decode cX8_isTap 15 = .ok (.ireturn, 1) := by decide +kernel
theorem dX8_kindAt_0 : decode cX8_kindAt 0 = .ok (.aload_n 0, 1) := by decide +kernel
theorem dX8_kindAt_1 : decode cX8_kindAt 1 = .ok (.getfield 22, 3) := by decide +kernel
theorem dX8_kindAt_4 : decode cX8_kindAt 4 = .ok (.bipush 28, 2) := by decide +kernel
theorem dX8_kindAt_6 : decode cX8_kindAt 6 = .ok (.iconst 2, 1) := by decide +kernel
theorem dX8_kindAt_7 : decode cX8_kindAt 7 = .ok (.iload_n 1, 1) := by decide +kernel
theorem dX8_kindAt_8 : decode cX8_kindAt 8 = .ok (.imul, 1) := by decide +kernel
theorem dX8_kindAt_9 : decode cX8_kindAt 9 = .ok (.iadd, 1) := by decide +kernel
theorem dX8_kindAt_10 : decode cX8_kindAt 10 = .ok (.iaload, 1) := by decide +kernel
theorem dX8_kindAt_11 : decode cX8_kindAt 11 = .ok (.ireturn, 1) := by decide +kernel
theorem dX8_forceAt_0 : decode cX8_forceAt 0 = .ok (.aload_n 0, 1) := by decide +kernel
theorem dX8_forceAt_1 : decode cX8_forceAt 1 = .ok (.getfield 22, 3) := by decide +kernel
theorem dX8_forceAt_4 : decode cX8_forceAt 4 = .ok (.bipush 28, 2) := by decide +kernel
theorem dX8_forceAt_6 : decode cX8_forceAt 6 = .ok (.iconst 2, 1) := by decide +kernel
theorem dX8_forceAt_7 : decode cX8_forceAt 7 = .ok (.iload_n 1, 1) := by decide +kernel
theorem dX8_forceAt_8 : decode cX8_forceAt 8 = .ok (.imul, 1) := by decide +kernel
theorem dX8_forceAt_9 : decode cX8_forceAt 9 = .ok (.iadd, 1) := by decide +kernel
theorem dX8_forceAt_10 : decode cX8_forceAt 10 = .ok (.iconst 1, 1) := by decide +kernel
theorem dX8_forceAt_11 : decode cX8_forceAt 11 = .ok (.iadd, 1) := by decide +kernel
theorem dX8_forceAt_12 : decode cX8_forceAt 12 = .ok (.iaload, 1) := by decide +kernel
theorem dX8_forceAt_13 : decode cX8_forceAt 13 = .ok (.ireturn, 1) := by decide +kernel
theorem dX8_paces_0 : decode cX8_paces 0 = .ok (.aload_n 0, 1) := by decide +kernel
theorem dX8_paces_1 : decode cX8_paces 1 = .ok (.dup, 1) := by decide +kernel
theorem dX8_paces_2 : decode cX8_paces 2 = .ok (.getfield 153, 3) := by decide +kernel
theorem dX8_paces_5 : decode cX8_paces 5 = .ok (.iload_n 1, 1) := by decide +kernel
theorem dX8_paces_6 : decode cX8_paces 6 = .ok (.iadd, 1) := by decide +kernel
theorem dX8_paces_7 : decode cX8_paces 7 = .ok (.putfield 153, 3) := by decide +kernel
theorem dX8_paces_10 : decode cX8_paces 10 = .ok (.aload_n 0, 1) := by decide +kernel
theorem dX8_paces_11 : decode cX8_paces 11 = .ok (.aload_n 0, 1) := by decide +kernel
theorem dX8_paces_12 : decode cX8_paces 12 = .ok (.getfield 153, 3) := by decide +kernel
theorem dX8_paces_15 : decode cX8_paces 15 = .ok (.ifCond .ge 7, 3) := by decide +kernel
theorem dX8_paces_18 : decode cX8_paces 18 = .ok (.iconst 0, 1) := by decide +kernel
theorem dX8_paces_19 : decode cX8_paces 19 = .ok (.goto 21, 3) := by decide +kernel
theorem dX8_paces_22 : decode cX8_paces 22 = .ok (.aload_n 0, 1) := by decide +kernel
theorem dX8_paces_23 : decode cX8_paces 23 = .ok (.getfield 153, 3) := by decide +kernel
theorem dX8_paces_26 : decode cX8_paces 26 = .ok (.bipush 9, 2) := by decide +kernel
theorem dX8_paces_28 : decode cX8_paces 28 = .ok (.if_icmp .le 8, 3) := by decide +kernel
theorem dX8_paces_31 : decode cX8_paces 31 = .ok (.bipush 9, 2) := by decide +kernel
theorem dX8_paces_33 : decode cX8_paces 33 = .ok (.goto 7, 3) := by decide +kernel
theorem dX8_paces_36 : decode cX8_paces 36 = .ok (.aload_n 0, 1) := by decide +kernel
theorem dX8_paces_37 : decode cX8_paces 37 = .ok (.getfield 153, 3) := by decide +kernel
theorem dX8_paces_40 : decode cX8_paces 40 = .ok (.putfield 153, 3) := by decide +kernel
theorem dX8_paces_43 : decode cX8_paces 43 = .ok (.return_, 1) := by decide +kernel
theorem dX8_from0_0 : decode cX8_from0 0 = .ok (.iload_n 0, 1) := by decide +kernel
theorem dX8_from0_1 : decode cX8_from0 1 = .ok (.ifCond .le 9, 3) := by decide +kernel
theorem dX8_from0_4 : decode cX8_from0 4 = .ok (.iload_n 0, 1) := by decide +kernel
theorem dX8_from0_5 : decode cX8_from0 5 = .ok (.iload_n 1, 1) := by decide +kernel
theorem dX8_from0_6 : decode cX8_from0 6 = .ok (.iadd, 1) := by decide +kernel
theorem dX8_from0_7 : decode cX8_from0 7 = .ok (.goto 14, 3) := by decide +kernel
theorem dX8_from0_10 : decode cX8_from0 10 = .ok (.iload_n 0, 1) := by decide +kernel
theorem dX8_from0_11 : decode cX8_from0 11 = .ok (.ifCond .ge 9, 3) := by decide +kernel
theorem dX8_from0_14 : decode cX8_from0 14 = .ok (.iload_n 0, 1) := by decide +kernel
theorem dX8_from0_15 : decode cX8_from0 15 = .ok (.iload_n 1, 1) := by decide +kernel
theorem dX8_from0_16 : decode cX8_from0 16 = .ok (.isub, 1) := by decide +kernel
theorem dX8_from0_17 : decode cX8_from0 17 = .ok (.goto 4, 3) := by decide +kernel
theorem dX8_from0_20 : decode cX8_from0 20 = .ok (.iload_n 2, 1) := by decide +kernel
theorem dX8_from0_21 : decode cX8_from0 21 = .ok (.ireturn, 1) := by decide +kernel
set_option maxRecDepth 20000 in
theorem ggX8_taps_X8_paces : GoodIn wsX8_taps wsX8_paces := goodIn_r _ [6, 7, 8, 9, 10, 11, 12, 13, 14, 15, 16, 17, 18, 19, 20, 21, 22, 23, 24, 25, 26, 27, 28, 29, 30, 31, 32, 33, 34, 35, 36, 37, 38, 39, 40] (by decide +kernel) (by decide +kernel)
set_option maxRecDepth 20000 in
theorem gX8_taps_X8_paces : GoodIn wsX8_taps (wsV RX8 162 RX8 yX8_paces wsX8_paces) := goodIn_app (goodIn_of _ (by decide +kernel)) ggX8_taps_X8_paces
theorem dX8_taps_0 : decode cX8_taps 0 = .ok (.aload_n 0, 1) := by decide +kernel
theorem dX8_taps_1 : decode cX8_taps 1 = .ok (.iload_n 1, 1) := by decide +kernel
theorem dX8_taps_2 : decode cX8_taps 2 = .ok (.iconst 2, 1) := by decide +kernel
theorem dX8_taps_3 : decode cX8_taps 3 = .ok (.if_icmp .ne 9, 3) := by decide +kernel
theorem dX8_taps_6 : decode cX8_taps 6 = .ok (.iload_n 2, 1) := by decide +kernel
theorem dX8_taps_7 : decode cX8_taps 7 = .ok (.iconst 2, 1) := by decide +kernel
theorem dX8_taps_8 : decode cX8_taps 8 = .ok (.idiv, 1) := by decide +kernel
theorem dX8_taps_9 : decode cX8_taps 9 = .ok (.goto 14, 3) := by decide +kernel
theorem dX8_taps_12 : decode cX8_taps 12 = .ok (.iload_n 1, 1) := by decide +kernel
theorem dX8_taps_13 : decode cX8_taps 13 = .ok (.iconst 4, 1) := by decide +kernel
theorem dX8_taps_14 : decode cX8_taps 14 = .ok (.if_icmp .ge 7, 3) := by decide +kernel
theorem dX8_taps_17 : decode cX8_taps 17 = .ok (.iload_n 2, 1) := by decide +kernel
theorem dX8_taps_18 : decode cX8_taps 18 = .ok (.goto 5, 3) := by decide +kernel
theorem dX8_taps_21 : decode cX8_taps 21 = .ok (.iload_n 2, 1) := by decide +kernel
theorem dX8_taps_22 : decode cX8_taps 22 = .ok (.ineg, 1) := by decide +kernel
theorem dX8_taps_23 : decode cX8_taps 23 = .ok (.invokevirtual 162, 3) := by decide +kernel
theorem dX8_taps_26 : decode cX8_taps 26 = .ok (.iload_n 1, 1) := by decide +kernel
theorem dX8_taps_27 : decode cX8_taps 27 = .ok (.iconst 2, 1) := by decide +kernel
theorem dX8_taps_28 : decode cX8_taps 28 = .ok (.if_icmp .ne 56, 3) := by decide +kernel
theorem dX8_taps_31 : decode cX8_taps 31 = .ok (.aload_n 0, 1) := by decide +kernel
theorem dX8_taps_32 : decode cX8_taps 32 = .ok (.getfield 156, 3) := by decide +kernel
theorem dX8_taps_35 : decode cX8_taps 35 = .ok (.ifCond .ge 11, 3) := by decide +kernel
theorem dX8_taps_38 : decode cX8_taps 38 = .ok (.aload_n 0, 1) := by decide +kernel
theorem dX8_taps_39 : decode cX8_taps 39 = .ok (.getfield 156, 3) := by decide +kernel
theorem dX8_taps_42 : decode cX8_taps 42 = .ok (.ineg, 1) := by decide +kernel
theorem dX8_taps_43 : decode cX8_taps 43 = .ok (.goto 7, 3) := by decide +kernel
theorem dX8_taps_46 : decode cX8_taps 46 = .ok (.aload_n 0, 1) := by decide +kernel
theorem dX8_taps_47 : decode cX8_taps 47 = .ok (.getfield 156, 3) := by decide +kernel
theorem dX8_taps_50 : decode cX8_taps 50 = .ok (.istore_n 3, 1) := by decide +kernel
theorem dX8_taps_51 : decode cX8_taps 51 = .ok (.iload_n 3, 1) := by decide +kernel
theorem dX8_taps_52 : decode cX8_taps 52 = .ok (.iload_n 2, 1) := by decide +kernel
theorem dX8_taps_53 : decode cX8_taps 53 = .ok (.if_icmp .le 9, 3) := by decide +kernel
theorem dX8_taps_56 : decode cX8_taps 56 = .ok (.iload_n 3, 1) := by decide +kernel
theorem dX8_taps_57 : decode cX8_taps 57 = .ok (.iload_n 2, 1) := by decide +kernel
theorem dX8_taps_58 : decode cX8_taps 58 = .ok (.isub, 1) := by decide +kernel
theorem dX8_taps_59 : decode cX8_taps 59 = .ok (.goto 4, 3) := by decide +kernel
theorem dX8_taps_62 : decode cX8_taps 62 = .ok (.iconst 0, 1) := by decide +kernel
theorem dX8_taps_63 : decode cX8_taps 63 = .ok (.istore_n 3, 1) := by decide +kernel
theorem dX8_taps_64 : decode cX8_taps 64 = .ok (.aload_n 0, 1) := by decide +kernel
theorem dX8_taps_65 : decode cX8_taps 65 = .ok (.aload_n 0, 1) := by decide +kernel
theorem dX8_taps_66 : decode cX8_taps 66 = .ok (.getfield 156, 3) := by decide +kernel
theorem dX8_taps_69 : decode cX8_taps 69 = .ok (.ifCond .ge 8, 3) := by decide +kernel
theorem dX8_taps_72 : decode cX8_taps 72 = .ok (.iload_n 3, 1) := by decide +kernel
theorem dX8_taps_73 : decode cX8_taps 73 = .ok (.ineg, 1) := by decide +kernel
theorem dX8_taps_74 : decode cX8_taps 74 = .ok (.goto 4, 3) := by decide +kernel
theorem dX8_taps_77 : decode cX8_taps 77 = .ok (.iload_n 3, 1) := by decide +kernel
theorem dX8_taps_78 : decode cX8_taps 78 = .ok (.putfield 156, 3) := by decide +kernel
theorem dX8_taps_81 : decode cX8_taps 81 = .ok (.goto 13, 3) := by decide +kernel
theorem dX8_taps_84 : decode cX8_taps 84 = .ok (.iload_n 1, 1) := by decide +kernel
theorem dX8_taps_85 : decode cX8_taps 85 = .ok (.iconst 5, 1) := by decide +kernel
theorem dX8_taps_86 : decode cX8_taps 86 = .ok (.if_icmp .ne 8, 3) := by decide +kernel
theorem dX8_taps_89 : decode cX8_taps 89 = .ok (.aload_n 0, 1) := by decide +kernel
theorem dX8_taps_90 : decode cX8_taps 90 = .ok (.iconst 0, 1) := by decide +kernel
theorem dX8_taps_91 : decode cX8_taps 91 = .ok (.putfield 156, 3) := by decide +kernel
theorem dX8_taps_94 : decode cX8_taps 94 = .ok (.return_, 1) := by decide +kernel
set_option maxRecDepth 20000 in
theorem ggX8_grounds_X8_paces : GoodIn wsX8_grounds wsX8_paces := goodIn_r _ [8, 9, 13, 14, 15, 16, 17, 18, 19, 20, 21, 22, 23, 24, 25, 26, 27, 28, 29, 30, 31, 32, 33, 34, 35, 36, 37, 38, 39, 40, 41, 42, 43, 44, 45] (by decide +kernel) (by decide +kernel)
set_option maxRecDepth 20000 in
theorem gX8_grounds_X8_paces : GoodIn wsX8_grounds (wsV RX8 162 RX8 yX8_paces wsX8_paces) := goodIn_app (goodIn_of _ (by decide +kernel)) ggX8_grounds_X8_paces
set_option maxRecDepth 20000 in
theorem ggX8_grounds_X8_from0 : GoodIn wsX8_grounds wsX8_from0 := goodIn_r _ [12] (by decide +kernel) (by decide +kernel)
set_option maxRecDepth 20000 in
theorem gX8_grounds_X8_from0 : GoodIn wsX8_grounds (va_wsS RX8 165 yX8_from0 wsX8_from0) := goodIn_app (goodIn_of _ (by decide +kernel)) ggX8_grounds_X8_from0
theorem dX8_grounds_0 : decode cX8_grounds 0 = .ok (.aload_n 0, 1) := by decide +kernel
theorem dX8_grounds_1 : decode cX8_grounds 1 = .ok (.getfield 22, 3) := by decide +kernel
theorem dX8_grounds_4 : decode cX8_grounds 4 = .ok (.iconst 4, 1) := by decide +kernel
theorem dX8_grounds_5 : decode cX8_grounds 5 = .ok (.aload_n 0, 1) := by decide +kernel
theorem dX8_grounds_6 : decode cX8_grounds 6 = .ok (.getfield 150, 3) := by decide +kernel
theorem dX8_grounds_9 : decode cX8_grounds 9 = .ok (.iadd, 1) := by decide +kernel
theorem dX8_grounds_10 : decode cX8_grounds 10 = .ok (.iaload, 1) := by decide +kernel
theorem dX8_grounds_11 : decode cX8_grounds 11 = .ok (.tableswitch 94 1 5 #[33, 41, 49, 57, 73], 33) := by decide +kernel
theorem dX8_grounds_44 : decode cX8_grounds 44 = .ok (.aload_n 0, 1) := by decide +kernel
theorem dX8_grounds_45 : decode cX8_grounds 45 = .ok (.iconst 2, 1) := by decide +kernel
theorem dX8_grounds_46 : decode cX8_grounds 46 = .ok (.invokevirtual 162, 3) := by decide +kernel
theorem dX8_grounds_49 : decode cX8_grounds 49 = .ok (.goto 56, 3) := by decide +kernel
theorem dX8_grounds_52 : decode cX8_grounds 52 = .ok (.aload_n 0, 1) := by decide +kernel
theorem dX8_grounds_53 : decode cX8_grounds 53 = .ok (.iconst (-1), 1) := by decide +kernel
theorem dX8_grounds_54 : decode cX8_grounds 54 = .ok (.invokevirtual 162, 3) := by decide +kernel
theorem dX8_grounds_57 : decode cX8_grounds 57 = .ok (.goto 48, 3) := by decide +kernel
theorem dX8_grounds_60 : decode cX8_grounds 60 = .ok (.aload_n 0, 1) := by decide +kernel
theorem dX8_grounds_61 : decode cX8_grounds 61 = .ok (.iconst 0, 1) := by decide +kernel
theorem dX8_grounds_62 : decode cX8_grounds 62 = .ok (.putfield 156, 3) := by decide +kernel
theorem dX8_grounds_65 : decode cX8_grounds 65 = .ok (.goto 40, 3) := by decide +kernel
theorem dX8_grounds_68 : decode cX8_grounds 68 = .ok (.aload_n 0, 1) := by decide +kernel
theorem dX8_grounds_69 : decode cX8_grounds 69 = .ok (.aload_n 0, 1) := by decide +kernel
theorem dX8_grounds_70 : decode cX8_grounds 70 = .ok (.getfield 156, 3) := by decide +kernel
theorem dX8_grounds_73 : decode cX8_grounds 73 = .ok (.iconst 2, 1) := by decide +kernel
theorem dX8_grounds_74 : decode cX8_grounds 74 = .ok (.iconst 2, 1) := by decide +kernel
theorem dX8_grounds_75 : decode cX8_grounds 75 = .ok (.invokestatic 165, 3) := by decide +kernel
theorem dX8_grounds_78 : decode cX8_grounds 78 = .ok (.putfield 156, 3) := by decide +kernel
theorem dX8_grounds_81 : decode cX8_grounds 81 = .ok (.goto 24, 3) := by decide +kernel
theorem dX8_grounds_84 : decode cX8_grounds 84 = .ok (.aload_n 0, 1) := by decide +kernel
theorem dX8_grounds_85 : decode cX8_grounds 85 = .ok (.iconst (-1), 1) := by decide +kernel
theorem dX8_grounds_86 : decode cX8_grounds 86 = .ok (.invokevirtual 162, 3) := by decide +kernel
theorem dX8_grounds_89 : decode cX8_grounds 89 = .ok (.aload_n 0, 1) := by decide +kernel
theorem dX8_grounds_90 : decode cX8_grounds 90 = .ok (.aload_n 0, 1) := by decide +kernel
theorem dX8_grounds_91 : decode cX8_grounds 91 = .ok (.getfield 156, 3) := by decide +kernel
theorem dX8_grounds_94 : decode cX8_grounds 94 = .ok (.iconst 1, 1) := by decide +kernel
theorem dX8_grounds_95 : decode cX8_grounds 95 = .ok (.iconst (-1), 1) := by decide +kernel
theorem dX8_grounds_96 : decode cX8_grounds 96 = .ok (.invokestatic 165, 3) := by decide +kernel
theorem dX8_grounds_99 : decode cX8_grounds 99 = .ok (.putfield 156, 3) := by decide +kernel
theorem dX8_grounds_102 : decode cX8_grounds 102 = .ok (.goto 3, 3) := by decide +kernel
theorem dX8_grounds_105 : decode cX8_grounds 105 = .ok (.return_, 1) := by decide +kernel
set_option maxRecDepth 20000 in
theorem ggX8_goes_X8_taps : GoodIn wsX8_goes wsX8_taps := goodIn_r _ [11, 6, 12, 13, 14, 10, 15, 2, 23, 24, 25, 26, 27, 28, 29, 30, 31, 32, 33, 34, 35, 36, 37, 38, 39, 40, 41, 42, 43, 44, 45, 46, 47, 48, 49, 50, 51, 52, 53, 54, 55] (by decide +kernel) (by decide +kernel)
set_option maxRecDepth 20000 in
theorem gX8_goes_X8_taps : GoodIn wsX8_goes (wsV RX8 169 RX8 yX8_taps wsX8_taps) := goodIn_app (goodIn_of _ (by decide +kernel)) ggX8_goes_X8_taps
set_option maxRecDepth 20000 in
theorem ggX8_goes_X8_grounds : GoodIn wsX8_goes wsX8_grounds := goodIn_r _ [19, 4, 1, 6, 12, 13, 14, 10, 15, 2, 20, 21, 22, 23, 24, 25, 26, 27, 28, 29, 30, 31, 32, 33, 34, 35, 36, 37, 38, 39, 40, 41, 42, 43, 44, 45, 46, 47, 48, 49, 50, 51, 52, 53, 54, 55] (by decide +kernel) (by decide +kernel)
set_option maxRecDepth 20000 in
theorem gX8_goes_X8_grounds : GoodIn wsX8_goes (wsV RX8 172 RX8 yX8_grounds wsX8_grounds) := goodIn_app (goodIn_of _ (by decide +kernel)) ggX8_goes_X8_grounds
set_option maxRecDepth 20000 in
theorem ggX8_goes_X8_paces : GoodIn wsX8_goes wsX8_paces := goodIn_r _ [15, 2, 23, 24, 25, 26, 27, 28, 29, 30, 31, 32, 33, 34, 35, 36, 37, 38, 39, 40, 41, 42, 43, 44, 45, 46, 47, 48, 49, 50, 51, 52, 53, 54, 55] (by decide +kernel) (by decide +kernel)
set_option maxRecDepth 20000 in
theorem gX8_goes_X8_paces : GoodIn wsX8_goes (wsV RX8 162 RX8 yX8_paces wsX8_paces) := goodIn_app (goodIn_of _ (by decide +kernel)) ggX8_goes_X8_paces
set_option maxRecDepth 20000 in
theorem ggX8_goes_X8_from0 : GoodIn wsX8_goes wsX8_from0 := goodIn_r _ [22] (by decide +kernel) (by decide +kernel)
set_option maxRecDepth 20000 in
theorem gX8_goes_X8_from0 : GoodIn wsX8_goes (va_wsS RX8 165 yX8_from0 wsX8_from0) := goodIn_app (goodIn_of _ (by decide +kernel)) ggX8_goes_X8_from0
theorem dX8_goes_0 : decode cX8_goes 0 = .ok (.iload_n 1, 1) := by decide +kernel
theorem dX8_goes_1 : decode cX8_goes 1 = .ok (.ifCond .le 9, 3) := by decide +kernel
theorem dX8_goes_4 : decode cX8_goes 4 = .ok (.aload_n 0, 1) := by decide +kernel
theorem dX8_goes_5 : decode cX8_goes 5 = .ok (.iload_n 1, 1) := by decide +kernel
theorem dX8_goes_6 : decode cX8_goes 6 = .ok (.iload_n 2, 1) := by decide +kernel
theorem dX8_goes_7 : decode cX8_goes 7 = .ok (.invokevirtual 169, 3) := by decide +kernel
theorem dX8_goes_10 : decode cX8_goes 10 = .ok (.aload_n 0, 1) := by decide +kernel
theorem dX8_goes_11 : decode cX8_goes 11 = .ok (.dup, 1) := by decide +kernel
theorem dX8_goes_12 : decode cX8_goes 12 = .ok (.getfield 150, 3) := by decide +kernel
theorem dX8_goes_15 : decode cX8_goes 15 = .ok (.aload_n 0, 1) := by decide +kernel
theorem dX8_goes_16 : decode cX8_goes 16 = .ok (.getfield 153, 3) := by decide +kernel
theorem dX8_goes_19 : decode cX8_goes 19 = .ok (.iconst 3, 1) := by decide +kernel
theorem dX8_goes_20 : decode cX8_goes 20 = .ok (.idiv, 1) := by decide +kernel
theorem dX8_goes_21 : decode cX8_goes 21 = .ok (.iconst 1, 1) := by decide +kernel
theorem dX8_goes_22 : decode cX8_goes 22 = .ok (.iadd, 1) := by decide +kernel
theorem dX8_goes_23 : decode cX8_goes 23 = .ok (.iadd, 1) := by decide +kernel
theorem dX8_goes_24 : decode cX8_goes 24 = .ok (.putfield 150, 3) := by decide +kernel
theorem dX8_goes_27 : decode cX8_goes 27 = .ok (.aload_n 0, 1) := by decide +kernel
theorem dX8_goes_28 : decode cX8_goes 28 = .ok (.dup, 1) := by decide +kernel
theorem dX8_goes_29 : decode cX8_goes 29 = .ok (.getfield 144, 3) := by decide +kernel
theorem dX8_goes_32 : decode cX8_goes 32 = .ok (.iconst 1, 1) := by decide +kernel
theorem dX8_goes_33 : decode cX8_goes 33 = .ok (.iadd, 1) := by decide +kernel
theorem dX8_goes_34 : decode cX8_goes 34 = .ok (.putfield 144, 3) := by decide +kernel
theorem dX8_goes_37 : decode cX8_goes 37 = .ok (.aload_n 0, 1) := by decide +kernel
theorem dX8_goes_38 : decode cX8_goes 38 = .ok (.getfield 150, 3) := by decide +kernel
theorem dX8_goes_41 : decode cX8_goes 41 = .ok (.aload_n 0, 1) := by decide +kernel
theorem dX8_goes_42 : decode cX8_goes 42 = .ok (.getfield 22, 3) := by decide +kernel
theorem dX8_goes_45 : decode cX8_goes 45 = .ok (.iconst 0, 1) := by decide +kernel
theorem dX8_goes_46 : decode cX8_goes 46 = .ok (.iaload, 1) := by decide +kernel
theorem dX8_goes_47 : decode cX8_goes 47 = .ok (.if_icmp .lt 19, 3) := by decide +kernel
theorem dX8_goes_50 : decode cX8_goes 50 = .ok (.aload_n 0, 1) := by decide +kernel
theorem dX8_goes_51 : decode cX8_goes 51 = .ok (.aload_n 0, 1) := by decide +kernel
theorem dX8_goes_52 : decode cX8_goes 52 = .ok (.getfield 22, 3) := by decide +kernel
theorem dX8_goes_55 : decode cX8_goes 55 = .ok (.iconst 0, 1) := by decide +kernel
theorem dX8_goes_56 : decode cX8_goes 56 = .ok (.iaload, 1) := by decide +kernel
theorem dX8_goes_57 : decode cX8_goes 57 = .ok (.putfield 150, 3) := by decide +kernel
theorem dX8_goes_60 : decode cX8_goes 60 = .ok (.aload_n 0, 1) := by decide +kernel
theorem dX8_goes_61 : decode cX8_goes 61 = .ok (.iconst 2, 1) := by decide +kernel
theorem dX8_goes_62 : decode cX8_goes 62 = .ok (.putfield 159, 3) := by decide +kernel
theorem dX8_goes_65 : decode cX8_goes 65 = .ok (.return_, 1) := by decide +kernel
theorem dX8_goes_66 : decode cX8_goes 66 = .ok (.iload_n 1, 1) := by decide +kernel
theorem dX8_goes_67 : decode cX8_goes 67 = .ok (.iconst 3, 1) := by decide +kernel
theorem dX8_goes_68 : decode cX8_goes 68 = .ok (.if_icmp .eq 7, 3) := by decide +kernel
theorem dX8_goes_71 : decode cX8_goes 71 = .ok (.aload_n 0, 1) := by decide +kernel
theorem dX8_goes_72 : decode cX8_goes 72 = .ok (.invokevirtual 172, 3) := by decide +kernel
theorem dX8_goes_75 : decode cX8_goes 75 = .ok (.aload_n 0, 1) := by decide +kernel
theorem dX8_goes_76 : decode cX8_goes 76 = .ok (.aload_n 0, 1) := by decide +kernel
theorem dX8_goes_77 : decode cX8_goes 77 = .ok (.getfield 22, 3) := by decide +kernel
theorem dX8_goes_80 : decode cX8_goes 80 = .ok (.iconst 3, 1) := by decide +kernel
theorem dX8_goes_81 : decode cX8_goes 81 = .ok (.iaload, 1) := by decide +kernel
theorem dX8_goes_82 : decode cX8_goes 82 = .ok (.ineg, 1) := by decide +kernel
theorem dX8_goes_83 : decode cX8_goes 83 = .ok (.invokevirtual 162, 3) := by decide +kernel
theorem dX8_goes_86 : decode cX8_goes 86 = .ok (.aload_n 0, 1) := by decide +kernel
theorem dX8_goes_87 : decode cX8_goes 87 = .ok (.aload_n 0, 1) := by decide +kernel
theorem dX8_goes_88 : decode cX8_goes 88 = .ok (.getfield 153, 3) := by decide +kernel
theorem dX8_goes_91 : decode cX8_goes 91 = .ok (.iconst 4, 1) := by decide +kernel
theorem dX8_goes_92 : decode cX8_goes 92 = .ok (.if_icmp .ge 28, 3) := by decide +kernel
theorem dX8_goes_95 : decode cX8_goes 95 = .ok (.aload_n 0, 1) := by decide +kernel
theorem dX8_goes_96 : decode cX8_goes 96 = .ok (.getfield 156, 3) := by decide +kernel
theorem dX8_goes_99 : decode cX8_goes 99 = .ok (.iconst 1, 1) := by decide +kernel
theorem dX8_goes_100 : decode cX8_goes 100 = .ok (.aload_n 0, 1) := by decide +kernel
theorem dX8_goes_101 : decode cX8_goes 101 = .ok (.getfield 150, 3) := by decide +kernel
theorem dX8_goes_104 : decode cX8_goes 104 = .ok (.iconst 2, 1) := by decide +kernel
theorem dX8_goes_105 : decode cX8_goes 105 = .ok (.irem, 1) := by decide +kernel
theorem dX8_goes_106 : decode cX8_goes 106 = .ok (.ifCond .ne 7, 3) := by decide +kernel
theorem dX8_goes_109 : decode cX8_goes 109 = .ok (.iconst 1, 1) := by decide +kernel
theorem dX8_goes_110 : decode cX8_goes 110 = .ok (.goto 4, 3) := by decide +kernel
theorem dX8_goes_113 : decode cX8_goes 113 = .ok (.iconst (-1), 1) := by decide +kernel
theorem dX8_goes_114 : decode cX8_goes 114 = .ok (.invokestatic 165, 3) := by decide +kernel
theorem dX8_goes_117 : decode cX8_goes 117 = .ok (.goto 7, 3) := by decide +kernel
theorem dX8_goes_120 : decode cX8_goes 120 = .ok (.aload_n 0, 1) := by decide +kernel
theorem dX8_goes_121 : decode cX8_goes 121 = .ok (.getfield 156, 3) := by decide +kernel
theorem dX8_goes_124 : decode cX8_goes 124 = .ok (.putfield 156, 3) := by decide +kernel
theorem dX8_goes_127 : decode cX8_goes 127 = .ok (.aload_n 0, 1) := by decide +kernel
theorem dX8_goes_128 : decode cX8_goes 128 = .ok (.aload_n 0, 1) := by decide +kernel
theorem dX8_goes_129 : decode cX8_goes 129 = .ok (.getfield 156, 3) := by decide +kernel
theorem dX8_goes_132 : decode cX8_goes 132 = .ok (.aload_n 0, 1) := by decide +kernel
theorem dX8_goes_133 : decode cX8_goes 133 = .ok (.getfield 22, 3) := by decide +kernel
theorem dX8_goes_136 : decode cX8_goes 136 = .ok (.iconst 2, 1) := by decide +kernel
theorem dX8_goes_137 : decode cX8_goes 137 = .ok (.iaload, 1) := by decide +kernel
theorem dX8_goes_138 : decode cX8_goes 138 = .ok (.if_icmp .gt 24, 3) := by decide +kernel
theorem dX8_goes_141 : decode cX8_goes 141 = .ok (.aload_n 0, 1) := by decide +kernel
theorem dX8_goes_142 : decode cX8_goes 142 = .ok (.getfield 156, 3) := by decide +kernel
theorem dX8_goes_145 : decode cX8_goes 145 = .ok (.aload_n 0, 1) := by decide +kernel
theorem dX8_goes_146 : decode cX8_goes 146 = .ok (.getfield 22, 3) := by decide +kernel
theorem dX8_goes_149 : decode cX8_goes 149 = .ok (.iconst 2, 1) := by decide +kernel
theorem dX8_goes_150 : decode cX8_goes 150 = .ok (.iaload, 1) := by decide +kernel
theorem dX8_goes_151 : decode cX8_goes 151 = .ok (.ineg, 1) := by decide +kernel
theorem dX8_goes_152 : decode cX8_goes 152 = .ok (.if_icmp .lt 10, 3) := by decide +kernel
theorem dX8_goes_155 : decode cX8_goes 155 = .ok (.aload_n 0, 1) := by decide +kernel
theorem dX8_goes_156 : decode cX8_goes 156 = .ok (.getfield 153, 3) := by decide +kernel
theorem dX8_goes_159 : decode cX8_goes 159 = .ok (.ifCond .ne 7, 3) := by decide +kernel
theorem dX8_goes_162 : decode cX8_goes 162 = .ok (.iconst 1, 1) := by decide +kernel
theorem dX8_goes_163 : decode cX8_goes 163 = .ok (.goto 4, 3) := by decide +kernel
theorem dX8_goes_166 : decode cX8_goes 166 = .ok (.iconst 0, 1) := by decide +kernel
theorem dX8_goes_167 : decode cX8_goes 167 = .ok (.putfield 159, 3) := by decide +kernel
theorem dX8_goes_170 : decode cX8_goes 170 = .ok (.return_, 1) := by decide +kernel
set_option maxRecDepth 20000 in
theorem ggX8_goesWith_X8_kindAt : GoodIn wsX8_goesWith wsX8_kindAt := goodIn_r _ [5, 6, 35, 36, 37, 38, 39, 40, 41, 42, 43, 44, 45, 46, 47, 48, 49, 50, 51, 52, 53, 54, 55, 56, 57, 58, 59, 60, 61, 62, 63, 64, 65, 66, 67] (by decide +kernel) (by decide +kernel)
set_option maxRecDepth 20000 in
theorem gX8_goesWith_X8_kindAt : GoodIn wsX8_goesWith (wsV RX8 175 RX8 yX8_kindAt wsX8_kindAt) := goodIn_app (goodIn_of _ (by decide +kernel)) ggX8_goesWith_X8_kindAt
set_option maxRecDepth 20000 in
theorem ggX8_goesWith_X8_forceAt : GoodIn wsX8_goesWith wsX8_forceAt := goodIn_r _ [10, 6, 35, 36, 37, 38, 39, 40, 41, 42, 43, 44, 45, 46, 47, 48, 49, 50, 51, 52, 53, 54, 55, 56, 57, 58, 59, 60, 61, 62, 63, 64, 65, 66, 67] (by decide +kernel) (by decide +kernel)
set_option maxRecDepth 20000 in
theorem gX8_goesWith_X8_forceAt : GoodIn wsX8_goesWith (wsV RX8 178 RX8 yX8_forceAt wsX8_forceAt) := goodIn_app (goodIn_of _ (by decide +kernel)) ggX8_goesWith_X8_forceAt
set_option maxRecDepth 20000 in
theorem ggX8_goesWith_X8_goes : GoodIn wsX8_goesWith wsX8_goes := goodIn_r _ [14, 15, 16, 17, 6, 18, 19, 20, 21, 22, 4, 23, 24, 25, 26, 27, 28, 29, 30, 31, 32, 33, 34, 35, 36, 37, 38, 39, 40, 41, 42, 43, 44, 45, 46, 47, 48, 49, 50, 51, 52, 53, 54, 55, 56, 57, 58, 59, 60, 61, 62, 63, 64, 65, 66, 67] (by decide +kernel) (by decide +kernel)
set_option maxRecDepth 20000 in
theorem gX8_goesWith_X8_goes : GoodIn wsX8_goesWith (wsV RX8 181 RX8 yX8_goes wsX8_goes) := goodIn_app (goodIn_of _ (by decide +kernel)) ggX8_goesWith_X8_goes
theorem dX8_goesWith_0 : decode cX8_goesWith 0 = .ok (.aload_n 0, 1) := by decide +kernel
theorem dX8_goesWith_1 : decode cX8_goesWith 1 = .ok (.iload_n 1, 1) := by decide +kernel
theorem dX8_goesWith_2 : decode cX8_goesWith 2 = .ok (.ifCond .ge 7, 3) := by decide +kernel
theorem dX8_goesWith_5 : decode cX8_goesWith 5 = .ok (.iconst 0, 1) := by decide +kernel
theorem dX8_goesWith_6 : decode cX8_goesWith 6 = .ok (.goto 8, 3) := by decide +kernel
theorem dX8_goesWith_9 : decode cX8_goesWith 9 = .ok (.aload_n 0, 1) := by decide +kernel
theorem dX8_goesWith_10 : decode cX8_goesWith 10 = .ok (.iload_n 1, 1) := by decide +kernel
theorem dX8_goesWith_11 : decode cX8_goesWith 11 = .ok (.invokevirtual 175, 3) := by decide +kernel
theorem dX8_goesWith_14 : decode cX8_goesWith 14 = .ok (.iload_n 1, 1) := by decide +kernel
theorem dX8_goesWith_15 : decode cX8_goesWith 15 = .ok (.ifCond .ge 7, 3) := by decide +kernel
theorem dX8_goesWith_18 : decode cX8_goesWith 18 = .ok (.iconst 0, 1) := by decide +kernel
theorem dX8_goesWith_19 : decode cX8_goesWith 19 = .ok (.goto 8, 3) := by decide +kernel
theorem dX8_goesWith_22 : decode cX8_goesWith 22 = .ok (.aload_n 0, 1) := by decide +kernel
theorem dX8_goesWith_23 : decode cX8_goesWith 23 = .ok (.iload_n 1, 1) := by decide +kernel
theorem dX8_goesWith_24 : decode cX8_goesWith 24 = .ok (.invokevirtual 178, 3) := by decide +kernel
theorem dX8_goesWith_27 : decode cX8_goesWith 27 = .ok (.invokevirtual 181, 3) := by decide +kernel
theorem dX8_goesWith_30 : decode cX8_goesWith 30 = .ok (.return_, 1) := by decide +kernel
theorem dX8_notes_0 : decode cX8_notes 0 = .ok (.aload_n 0, 1) := by decide +kernel
theorem dX8_notes_1 : decode cX8_notes 1 = .ok (.getfield 147, 3) := by decide +kernel
theorem dX8_notes_4 : decode cX8_notes 4 = .ok (.bipush 24, 2) := by decide +kernel
theorem dX8_notes_6 : decode cX8_notes 6 = .ok (.if_icmp .ne 40, 3) := by decide +kernel
theorem dX8_notes_9 : decode cX8_notes 9 = .ok (.bipush 29, 2) := by decide +kernel
theorem dX8_notes_11 : decode cX8_notes 11 = .ok (.istore_n 1, 1) := by decide +kernel
theorem dX8_notes_12 : decode cX8_notes 12 = .ok (.iload_n 1, 1) := by decide +kernel
theorem dX8_notes_13 : decode cX8_notes 13 = .ok (.sipush 696, 3) := by decide +kernel
theorem dX8_notes_16 : decode cX8_notes 16 = .ok (.if_icmp .ge 24, 3) := by decide +kernel
theorem dX8_notes_19 : decode cX8_notes 19 = .ok (.aload_n 0, 1) := by decide +kernel
theorem dX8_notes_20 : decode cX8_notes 20 = .ok (.getfield 31, 3) := by decide +kernel
theorem dX8_notes_23 : decode cX8_notes 23 = .ok (.iload_n 1, 1) := by decide +kernel
theorem dX8_notes_24 : decode cX8_notes 24 = .ok (.bipush 29, 2) := by decide +kernel
theorem dX8_notes_26 : decode cX8_notes 26 = .ok (.isub, 1) := by decide +kernel
theorem dX8_notes_27 : decode cX8_notes 27 = .ok (.aload_n 0, 1) := by decide +kernel
theorem dX8_notes_28 : decode cX8_notes 28 = .ok (.getfield 31, 3) := by decide +kernel
theorem dX8_notes_31 : decode cX8_notes 31 = .ok (.iload_n 1, 1) := by decide +kernel
theorem dX8_notes_32 : decode cX8_notes 32 = .ok (.iaload, 1) := by decide +kernel
theorem dX8_notes_33 : decode cX8_notes 33 = .ok (.iastore, 1) := by decide +kernel
theorem dX8_notes_34 : decode cX8_notes 34 = .ok (.iinc 1 1, 3) := by decide +kernel
theorem dX8_notes_37 : decode cX8_notes 37 = .ok (.goto (-25), 3) := by decide +kernel
theorem dX8_notes_40 : decode cX8_notes 40 = .ok (.aload_n 0, 1) := by decide +kernel
theorem dX8_notes_41 : decode cX8_notes 41 = .ok (.bipush 23, 2) := by decide +kernel
theorem dX8_notes_43 : decode cX8_notes 43 = .ok (.putfield 147, 3) := by decide +kernel
theorem dX8_notes_46 : decode cX8_notes 46 = .ok (.bipush 29, 2) := by decide +kernel
theorem dX8_notes_48 : decode cX8_notes 48 = .ok (.aload_n 0, 1) := by decide +kernel
theorem dX8_notes_49 : decode cX8_notes 49 = .ok (.getfield 147, 3) := by decide +kernel
theorem dX8_notes_52 : decode cX8_notes 52 = .ok (.imul, 1) := by decide +kernel
theorem dX8_notes_53 : decode cX8_notes 53 = .ok (.istore_n 1, 1) := by decide +kernel
theorem dX8_notes_54 : decode cX8_notes 54 = .ok (.aload_n 0, 1) := by decide +kernel
theorem dX8_notes_55 : decode cX8_notes 55 = .ok (.getfield 31, 3) := by decide +kernel
theorem dX8_notes_58 : decode cX8_notes 58 = .ok (.iload_n 1, 1) := by decide +kernel
theorem dX8_notes_59 : decode cX8_notes 59 = .ok (.aload_n 0, 1) := by decide +kernel
theorem dX8_notes_60 : decode cX8_notes 60 = .ok (.getfield 150, 3) := by decide +kernel
theorem dX8_notes_63 : decode cX8_notes 63 = .ok (.iastore, 1) := by decide +kernel
theorem dX8_notes_64 : decode cX8_notes 64 = .ok (.aload_n 0, 1) := by decide +kernel
theorem dX8_notes_65 : decode cX8_notes 65 = .ok (.getfield 31, 3) := by decide +kernel
theorem dX8_notes_68 : decode cX8_notes 68 = .ok (.iload_n 1, 1) := by decide +kernel
theorem dX8_notes_69 : decode cX8_notes 69 = .ok (.iconst 1, 1) := by decide +kernel
theorem dX8_notes_70 : decode cX8_notes 70 = .ok (.iadd, 1) := by decide +kernel
theorem dX8_notes_71 : decode cX8_notes 71 = .ok (.aload_n 0, 1) := by decide +kernel
theorem dX8_notes_72 : decode cX8_notes 72 = .ok (.getfield 153, 3) := by decide +kernel
theorem dX8_notes_75 : decode cX8_notes 75 = .ok (.iastore, 1) := by decide +kernel
theorem dX8_notes_76 : decode cX8_notes 76 = .ok (.aload_n 0, 1) := by decide +kernel
theorem dX8_notes_77 : decode cX8_notes 77 = .ok (.getfield 31, 3) := by decide +kernel
theorem dX8_notes_80 : decode cX8_notes 80 = .ok (.iload_n 1, 1) := by decide +kernel
theorem dX8_notes_81 : decode cX8_notes 81 = .ok (.iconst 2, 1) := by decide +kernel
theorem dX8_notes_82 : decode cX8_notes 82 = .ok (.iadd, 1) := by decide +kernel
theorem dX8_notes_83 : decode cX8_notes 83 = .ok (.aload_n 0, 1) := by decide +kernel
theorem dX8_notes_84 : decode cX8_notes 84 = .ok (.getfield 156, 3) := by decide +kernel
theorem dX8_notes_87 : decode cX8_notes 87 = .ok (.iastore, 1) := by decide +kernel
theorem dX8_notes_88 : decode cX8_notes 88 = .ok (.aload_n 0, 1) := by decide +kernel
theorem dX8_notes_89 : decode cX8_notes 89 = .ok (.getfield 31, 3) := by decide +kernel
theorem dX8_notes_92 : decode cX8_notes 92 = .ok (.iload_n 1, 1) := by decide +kernel
theorem dX8_notes_93 : decode cX8_notes 93 = .ok (.iconst 3, 1) := by decide +kernel
theorem dX8_notes_94 : decode cX8_notes 94 = .ok (.iadd, 1) := by decide +kernel
theorem dX8_notes_95 : decode cX8_notes 95 = .ok (.aload_n 0, 1) := by decide +kernel
theorem dX8_notes_96 : decode cX8_notes 96 = .ok (.getfield 159, 3) := by decide +kernel
theorem dX8_notes_99 : decode cX8_notes 99 = .ok (.iastore, 1) := by decide +kernel
theorem dX8_notes_100 : decode cX8_notes 100 = .ok (.aload_n 0, 1) := by decide +kernel
theorem dX8_notes_101 : decode cX8_notes 101 = .ok (.getfield 31, 3) := by decide +kernel
theorem dX8_notes_104 : decode cX8_notes 104 = .ok (.iload_n 1, 1) := by decide +kernel
theorem dX8_notes_105 : decode cX8_notes 105 = .ok (.iconst 4, 1) := by decide +kernel
theorem dX8_notes_106 : decode cX8_notes 106 = .ok (.iadd, 1) := by decide +kernel
theorem dX8_notes_107 : decode cX8_notes 107 = .ok (.aload_n 0, 1) := by decide +kernel
theorem dX8_notes_108 : decode cX8_notes 108 = .ok (.getfield 144, 3) := by decide +kernel
theorem dX8_notes_111 : decode cX8_notes 111 = .ok (.iastore, 1) := by decide +kernel
theorem dX8_notes_112 : decode cX8_notes 112 = .ok (.iconst 0, 1) := by decide +kernel
theorem dX8_notes_113 : decode cX8_notes 113 = .ok (.istore_n 2, 1) := by decide +kernel
theorem dX8_notes_114 : decode cX8_notes 114 = .ok (.iload_n 2, 1) := by decide +kernel
theorem dX8_notes_115 : decode cX8_notes 115 = .ok (.bipush 24, 2) := by decide +kernel
theorem dX8_notes_117 : decode cX8_notes 117 = .ok (.if_icmp .ge 27, 3) := by decide +kernel
theorem dX8_notes_120 : decode cX8_notes 120 = .ok (.aload_n 0, 1) := by decide +kernel
theorem dX8_notes_121 : decode cX8_notes 121 = .ok (.getfield 31, 3) := by decide +kernel
theorem dX8_notes_124 : decode cX8_notes 124 = .ok (.iload_n 1, 1) := by decide +kernel
theorem dX8_notes_125 : decode cX8_notes 125 = .ok (.iconst 5, 1) := by decide +kernel
theorem dX8_notes_126 : decode cX8_notes 126 = .ok (.iadd, 1) := by decide +kernel
theorem dX8_notes_127 : decode cX8_notes 127 = .ok (.iload_n 2, 1) := by decide +kernel
theorem dX8_notes_128 : decode cX8_notes 128 = .ok (.iadd, 1) := by decide +kernel
theorem dX8_notes_129 : decode cX8_notes 129 = .ok (.aload_n 0, 1) := by decide +kernel
theorem dX8_notes_130 : decode cX8_notes 130 = .ok (.getfield 22, 3) := by decide +kernel
theorem dX8_notes_133 : decode cX8_notes 133 = .ok (.iconst 4, 1) := by decide +kernel
theorem dX8_notes_134 : decode cX8_notes 134 = .ok (.iload_n 2, 1) := by decide +kernel
theorem dX8_notes_135 : decode cX8_notes 135 = .ok (.iadd, 1) := by decide +kernel
theorem dX8_notes_136 : decode cX8_notes 136 = .ok (.iaload, 1) := by decide +kernel
theorem dX8_notes_137 : decode cX8_notes 137 = .ok (.iastore, 1) := by decide +kernel
theorem dX8_notes_138 : decode cX8_notes 138 = .ok (.iinc 2 1, 3) := by decide +kernel
theorem dX8_notes_141 : decode cX8_notes 141 = .ok (.goto (-27), 3) := by decide +kernel
theorem dX8_notes_144 : decode cX8_notes 144 = .ok (.aload_n 0, 1) := by decide +kernel
theorem dX8_notes_145 : decode cX8_notes 145 = .ok (.dup, 1) := by decide +kernel
theorem dX8_notes_146 : decode cX8_notes 146 = .ok (.getfield 147, 3) := by decide +kernel
theorem dX8_notes_149 : decode cX8_notes 149 = .ok (.iconst 1, 1) := by decide +kernel
theorem dX8_notes_150 : decode cX8_notes 150 = .ok (.iadd, 1) := by decide +kernel
theorem dX8_notes_151 : decode cX8_notes 151 = .ok (.putfield 147, 3) := by decide +kernel
theorem dX8_notes_154 : decode cX8_notes 154 = .ok (.return_, 1) := by decide +kernel
set_option maxRecDepth 20000 in
theorem ggX8_undo_X8_puts : GoodIn wsX8_undo wsX8_puts := goodIn_r _ [10, 11, 12, 13, 14, 15, 16, 17, 18, 19, 20, 21, 22, 23, 24, 25, 26, 27, 28, 29, 30, 31, 32, 33, 34, 35, 36, 37, 38, 39, 40, 41, 42, 43, 44, 45, 46, 47] (by decide +kernel) (by decide +kernel)
set_option maxRecDepth 20000 in
theorem gX8_undo_X8_puts : GoodIn wsX8_undo (wsV RX8 140 RX8 yX8_puts wsX8_puts) := goodIn_app (goodIn_of _ (by decide +kernel)) ggX8_undo_X8_puts
theorem dX8_undo_0 : decode cX8_undo 0 = .ok (.aload_n 0, 1) := by decide +kernel
theorem dX8_undo_1 : decode cX8_undo 1 = .ok (.getfield 147, 3) := by decide +kernel
theorem dX8_undo_4 : decode cX8_undo 4 = .ok (.ifCond .ne 6, 3) := by decide +kernel
theorem dX8_undo_7 : decode cX8_undo 7 = .ok (.ldc 184, 2) := by decide +kernel
theorem dX8_undo_9 : decode cX8_undo 9 = .ok (.ireturn, 1) := by decide +kernel
theorem dX8_undo_10 : decode cX8_undo 10 = .ok (.aload_n 0, 1) := by decide +kernel
theorem dX8_undo_11 : decode cX8_undo 11 = .ok (.dup, 1) := by decide +kernel
theorem dX8_undo_12 : decode cX8_undo 12 = .ok (.getfield 147, 3) := by decide +kernel
theorem dX8_undo_15 : decode cX8_undo 15 = .ok (.iconst 1, 1) := by decide +kernel
theorem dX8_undo_16 : decode cX8_undo 16 = .ok (.isub, 1) := by decide +kernel
theorem dX8_undo_17 : decode cX8_undo 17 = .ok (.putfield 147, 3) := by decide +kernel
theorem dX8_undo_20 : decode cX8_undo 20 = .ok (.bipush 29, 2) := by decide +kernel
theorem dX8_undo_22 : decode cX8_undo 22 = .ok (.aload_n 0, 1) := by decide +kernel
theorem dX8_undo_23 : decode cX8_undo 23 = .ok (.getfield 147, 3) := by decide +kernel
theorem dX8_undo_26 : decode cX8_undo 26 = .ok (.imul, 1) := by decide +kernel
theorem dX8_undo_27 : decode cX8_undo 27 = .ok (.istore_n 1, 1) := by decide +kernel
theorem dX8_undo_28 : decode cX8_undo 28 = .ok (.aload_n 0, 1) := by decide +kernel
theorem dX8_undo_29 : decode cX8_undo 29 = .ok (.aload_n 0, 1) := by decide +kernel
theorem dX8_undo_30 : decode cX8_undo 30 = .ok (.getfield 31, 3) := by decide +kernel
theorem dX8_undo_33 : decode cX8_undo 33 = .ok (.iload_n 1, 1) := by decide +kernel
theorem dX8_undo_34 : decode cX8_undo 34 = .ok (.iaload, 1) := by decide +kernel
theorem dX8_undo_35 : decode cX8_undo 35 = .ok (.aload_n 0, 1) := by decide +kernel
theorem dX8_undo_36 : decode cX8_undo 36 = .ok (.getfield 31, 3) := by decide +kernel
theorem dX8_undo_39 : decode cX8_undo 39 = .ok (.iload_n 1, 1) := by decide +kernel
theorem dX8_undo_40 : decode cX8_undo 40 = .ok (.iconst 1, 1) := by decide +kernel
theorem dX8_undo_41 : decode cX8_undo 41 = .ok (.iadd, 1) := by decide +kernel
theorem dX8_undo_42 : decode cX8_undo 42 = .ok (.iaload, 1) := by decide +kernel
theorem dX8_undo_43 : decode cX8_undo 43 = .ok (.aload_n 0, 1) := by decide +kernel
theorem dX8_undo_44 : decode cX8_undo 44 = .ok (.getfield 31, 3) := by decide +kernel
theorem dX8_undo_47 : decode cX8_undo 47 = .ok (.iload_n 1, 1) := by decide +kernel
theorem dX8_undo_48 : decode cX8_undo 48 = .ok (.iconst 2, 1) := by decide +kernel
theorem dX8_undo_49 : decode cX8_undo 49 = .ok (.iadd, 1) := by decide +kernel
theorem dX8_undo_50 : decode cX8_undo 50 = .ok (.iaload, 1) := by decide +kernel
theorem dX8_undo_51 : decode cX8_undo 51 = .ok (.aload_n 0, 1) := by decide +kernel
theorem dX8_undo_52 : decode cX8_undo 52 = .ok (.getfield 31, 3) := by decide +kernel
theorem dX8_undo_55 : decode cX8_undo 55 = .ok (.iload_n 1, 1) := by decide +kernel
theorem dX8_undo_56 : decode cX8_undo 56 = .ok (.iconst 3, 1) := by decide +kernel
theorem dX8_undo_57 : decode cX8_undo 57 = .ok (.iadd, 1) := by decide +kernel
theorem dX8_undo_58 : decode cX8_undo 58 = .ok (.iaload, 1) := by decide +kernel
theorem dX8_undo_59 : decode cX8_undo 59 = .ok (.invokevirtual 140, 3) := by decide +kernel
theorem dX8_undo_62 : decode cX8_undo 62 = .ok (.aload_n 0, 1) := by decide +kernel
theorem dX8_undo_63 : decode cX8_undo 63 = .ok (.aload_n 0, 1) := by decide +kernel
theorem dX8_undo_64 : decode cX8_undo 64 = .ok (.getfield 31, 3) := by decide +kernel
theorem dX8_undo_67 : decode cX8_undo 67 = .ok (.iload_n 1, 1) := by decide +kernel
theorem dX8_undo_68 : decode cX8_undo 68 = .ok (.iconst 4, 1) := by decide +kernel
theorem dX8_undo_69 : decode cX8_undo 69 = .ok (.iadd, 1) := by decide +kernel
theorem dX8_undo_70 : decode cX8_undo 70 = .ok (.iaload, 1) := by decide +kernel
theorem dX8_undo_71 : decode cX8_undo 71 = .ok (.putfield 144, 3) := by decide +kernel
theorem dX8_undo_74 : decode cX8_undo 74 = .ok (.iconst 0, 1) := by decide +kernel
theorem dX8_undo_75 : decode cX8_undo 75 = .ok (.istore_n 2, 1) := by decide +kernel
theorem dX8_undo_76 : decode cX8_undo 76 = .ok (.iload_n 2, 1) := by decide +kernel
theorem dX8_undo_77 : decode cX8_undo 77 = .ok (.bipush 24, 2) := by decide +kernel
theorem dX8_undo_79 : decode cX8_undo 79 = .ok (.if_icmp .ge 27, 3) := by decide +kernel
theorem dX8_undo_82 : decode cX8_undo 82 = .ok (.aload_n 0, 1) := by decide +kernel
theorem dX8_undo_83 : decode cX8_undo 83 = .ok (.getfield 22, 3) := by decide +kernel
theorem dX8_undo_86 : decode cX8_undo 86 = .ok (.iconst 4, 1) := by decide +kernel
theorem dX8_undo_87 : decode cX8_undo 87 = .ok (.iload_n 2, 1) := by decide +kernel
theorem dX8_undo_88 : decode cX8_undo 88 = .ok (.iadd, 1) := by decide +kernel
theorem dX8_undo_89 : decode cX8_undo 89 = .ok (.aload_n 0, 1) := by decide +kernel
theorem dX8_undo_90 : decode cX8_undo 90 = .ok (.getfield 31, 3) := by decide +kernel
theorem dX8_undo_93 : decode cX8_undo 93 = .ok (.iload_n 1, 1) := by decide +kernel
theorem dX8_undo_94 : decode cX8_undo 94 = .ok (.iconst 5, 1) := by decide +kernel
theorem dX8_undo_95 : decode cX8_undo 95 = .ok (.iadd, 1) := by decide +kernel
theorem dX8_undo_96 : decode cX8_undo 96 = .ok (.iload_n 2, 1) := by decide +kernel
theorem dX8_undo_97 : decode cX8_undo 97 = .ok (.iadd, 1) := by decide +kernel
theorem dX8_undo_98 : decode cX8_undo 98 = .ok (.iaload, 1) := by decide +kernel
theorem dX8_undo_99 : decode cX8_undo 99 = .ok (.iastore, 1) := by decide +kernel
theorem dX8_undo_100 : decode cX8_undo 100 = .ok (.iinc 2 1, 3) := by decide +kernel
theorem dX8_undo_103 : decode cX8_undo 103 = .ok (.goto (-27), 3) := by decide +kernel
theorem dX8_undo_106 : decode cX8_undo 106 = .ok (.aload_n 0, 1) := by decide +kernel
theorem dX8_undo_107 : decode cX8_undo 107 = .ok (.getfield 147, 3) := by decide +kernel
theorem dX8_undo_110 : decode cX8_undo 110 = .ok (.ireturn, 1) := by decide +kernel
set_option maxRecDepth 20000 in
theorem ggX8_moment_X8_isTap : GoodIn wsX8_moment wsX8_isTap := goodIn_r _ [12, 13, 14, 15, 11, 16, 56, 57, 58, 59, 60, 61, 62, 63, 64, 65, 66, 67, 68, 69, 70, 71, 72, 73, 74, 75, 76, 77, 78, 79, 80, 81, 82, 83, 84, 85, 86, 87, 88] (by decide +kernel) (by decide +kernel)
set_option maxRecDepth 20000 in
theorem gX8_moment_X8_isTap : GoodIn wsX8_moment (wsV RX8 185 RX8 yX8_isTap wsX8_isTap) := goodIn_app (goodIn_of _ (by decide +kernel)) ggX8_moment_X8_isTap
set_option maxRecDepth 20000 in
theorem ggX8_moment_X8_notes : GoodIn wsX8_moment wsX8_notes := goodIn_r _ [20, 21, 22, 7, 23, 24, 4, 5, 13, 56, 57, 58, 59, 60, 61, 62, 63, 64, 65, 66, 67, 68, 69, 70, 71, 72, 73, 74, 75, 76, 77, 78, 79, 80, 81, 82, 83, 84, 85, 86, 87, 88] (by decide +kernel) (by decide +kernel)
set_option maxRecDepth 20000 in
theorem gX8_moment_X8_notes : GoodIn wsX8_moment (wsV RX8 188 RX8 yX8_notes wsX8_notes) := goodIn_app (goodIn_of _ (by decide +kernel)) ggX8_moment_X8_notes
set_option maxRecDepth 20000 in
theorem ggX8_moment_X8_goesWith : GoodIn wsX8_moment wsX8_goesWith := goodIn_r _ [28, 29, 30, 31, 11, 32, 13, 33, 34, 35, 36, 37, 38, 39, 40, 7, 23, 5, 4, 24, 41, 42, 43, 44, 45, 46, 47, 48, 49, 50, 51, 52, 53, 54, 55, 56, 57, 58, 59, 60, 61, 62, 63, 64, 65, 66, 67, 68, 69, 70, 71, 72, 73, 74, 75, 76, 77, 78, 79, 80, 81, 82, 83, 84, 85, 86, 87, 88] (by decide +kernel) (by decide +kernel)
set_option maxRecDepth 20000 in
theorem gX8_moment_X8_goesWith : GoodIn wsX8_moment (wsV RX8 191 RX8 yX8_goesWith wsX8_goesWith) := goodIn_app (goodIn_of _ (by decide +kernel)) ggX8_moment_X8_goesWith
theorem dX8_moment_0 : decode cX8_moment 0 = .ok (.aload_n 0, 1) := by decide +kernel
theorem dX8_moment_1 : decode cX8_moment 1 = .ok (.getfield 136, 3) := by decide +kernel
theorem dX8_moment_4 : decode cX8_moment 4 = .ok (.ifCond .ne 6, 3) := by decide +kernel
theorem dX8_moment_7 : decode cX8_moment 7 = .ok (.ldc 184, 2) := by decide +kernel
theorem dX8_moment_9 : decode cX8_moment 9 = .ok (.ireturn, 1) := by decide +kernel
theorem dX8_moment_10 : decode cX8_moment 10 = .ok (.iload_n 1, 1) := by decide +kernel
theorem dX8_moment_11 : decode cX8_moment 11 = .ok (.iconst (-1), 1) := by decide +kernel
theorem dX8_moment_12 : decode cX8_moment 12 = .ok (.if_icmp .eq 14, 3) := by decide +kernel
theorem dX8_moment_15 : decode cX8_moment 15 = .ok (.aload_n 0, 1) := by decide +kernel
theorem dX8_moment_16 : decode cX8_moment 16 = .ok (.iload_n 1, 1) := by decide +kernel
theorem dX8_moment_17 : decode cX8_moment 17 = .ok (.invokevirtual 185, 3) := by decide +kernel
theorem dX8_moment_20 : decode cX8_moment 20 = .ok (.ifCond .ne 6, 3) := by decide +kernel
theorem dX8_moment_23 : decode cX8_moment 23 = .ok (.ldc 64, 2) := by decide +kernel
theorem dX8_moment_25 : decode cX8_moment 25 = .ok (.ireturn, 1) := by decide +kernel
theorem dX8_moment_26 : decode cX8_moment 26 = .ok (.aload_n 0, 1) := by decide +kernel
theorem dX8_moment_27 : decode cX8_moment 27 = .ok (.getfield 159, 3) := by decide +kernel
theorem dX8_moment_30 : decode cX8_moment 30 = .ok (.ifCond .eq 6, 3) := by decide +kernel
theorem dX8_moment_33 : decode cX8_moment 33 = .ok (.ldc 184, 2) := by decide +kernel
theorem dX8_moment_35 : decode cX8_moment 35 = .ok (.ireturn, 1) := by decide +kernel
theorem dX8_moment_36 : decode cX8_moment 36 = .ok (.aload_n 0, 1) := by decide +kernel
theorem dX8_moment_37 : decode cX8_moment 37 = .ok (.getfield 144, 3) := by decide +kernel
theorem dX8_moment_40 : decode cX8_moment 40 = .ok (.sipush 999, 3) := by decide +kernel
theorem dX8_moment_43 : decode cX8_moment 43 = .ok (.if_icmp .ne 6, 3) := by decide +kernel
theorem dX8_moment_46 : decode cX8_moment 46 = .ok (.ldc 81, 2) := by decide +kernel
theorem dX8_moment_48 : decode cX8_moment 48 = .ok (.ireturn, 1) := by decide +kernel
theorem dX8_moment_49 : decode cX8_moment 49 = .ok (.aload_n 0, 1) := by decide +kernel
theorem dX8_moment_50 : decode cX8_moment 50 = .ok (.invokevirtual 188, 3) := by decide +kernel
theorem dX8_moment_53 : decode cX8_moment 53 = .ok (.aload_n 0, 1) := by decide +kernel
theorem dX8_moment_54 : decode cX8_moment 54 = .ok (.iload_n 1, 1) := by decide +kernel
theorem dX8_moment_55 : decode cX8_moment 55 = .ok (.invokevirtual 191, 3) := by decide +kernel
theorem dX8_moment_58 : decode cX8_moment 58 = .ok (.aload_n 0, 1) := by decide +kernel
theorem dX8_moment_59 : decode cX8_moment 59 = .ok (.getfield 150, 3) := by decide +kernel
theorem dX8_moment_62 : decode cX8_moment 62 = .ok (.ireturn, 1) := by decide +kernel
set_option maxRecDepth 20000 in
theorem ggX8_setUp_X8_in : GoodIn wsX8_setUp wsX8_in := goodIn_r _ [12] (by decide +kernel) (by decide +kernel)
set_option maxRecDepth 20000 in
theorem gX8_setUp_X8_in : GoodIn wsX8_setUp (va_wsS RX8 54 yX8_in wsX8_in) := goodIn_app (goodIn_of _ (by decide +kernel)) ggX8_setUp_X8_in
set_option maxRecDepth 20000 in
theorem ggX8_setUp_X8_notes : GoodIn wsX8_setUp wsX8_notes := goodIn_r _ [16, 17, 18, 8, 19, 20, 21, 22, 3, 27, 28, 29, 30, 31, 32, 33, 34, 35, 36, 37, 38, 39, 40, 41, 42, 43, 44, 45, 46, 47, 48, 49, 50, 51, 52, 53, 54, 55, 56, 57, 58, 59] (by decide +kernel) (by decide +kernel)
set_option maxRecDepth 20000 in
theorem gX8_setUp_X8_notes : GoodIn wsX8_setUp (wsV RX8 188 RX8 yX8_notes wsX8_notes) := goodIn_app (goodIn_of _ (by decide +kernel)) ggX8_setUp_X8_notes
set_option maxRecDepth 20000 in
theorem ggX8_setUp_X8_puts : GoodIn wsX8_setUp wsX8_puts := goodIn_r _ [26, 8, 19, 20, 21, 27, 28, 29, 30, 31, 32, 33, 34, 35, 36, 37, 38, 39, 40, 41, 42, 43, 44, 45, 46, 47, 48, 49, 50, 51, 52, 53, 54, 55, 56, 57, 58, 59] (by decide +kernel) (by decide +kernel)
set_option maxRecDepth 20000 in
theorem gX8_setUp_X8_puts : GoodIn wsX8_setUp (wsV RX8 140 RX8 yX8_puts wsX8_puts) := goodIn_app (goodIn_of _ (by decide +kernel)) ggX8_setUp_X8_puts
theorem dX8_setUp_0 : decode cX8_setUp 0 = .ok (.aload_n 0, 1) := by decide +kernel
theorem dX8_setUp_1 : decode cX8_setUp 1 = .ok (.getfield 136, 3) := by decide +kernel
theorem dX8_setUp_4 : decode cX8_setUp 4 = .ok (.ifCond .ne 6, 3) := by decide +kernel
theorem dX8_setUp_7 : decode cX8_setUp 7 = .ok (.ldc 184, 2) := by decide +kernel
theorem dX8_setUp_9 : decode cX8_setUp 9 = .ok (.ireturn, 1) := by decide +kernel
theorem dX8_setUp_10 : decode cX8_setUp 10 = .ok (.iload_n 1, 1) := by decide +kernel
theorem dX8_setUp_11 : decode cX8_setUp 11 = .ok (.i2l, 1) := by decide +kernel
theorem dX8_setUp_12 : decode cX8_setUp 12 = .ok (.lconst 0, 1) := by decide +kernel
theorem dX8_setUp_13 : decode cX8_setUp 13 = .ok (.aload_n 0, 1) := by decide +kernel
theorem dX8_setUp_14 : decode cX8_setUp 14 = .ok (.getfield 22, 3) := by decide +kernel
theorem dX8_setUp_17 : decode cX8_setUp 17 = .ok (.iconst 0, 1) := by decide +kernel
theorem dX8_setUp_18 : decode cX8_setUp 18 = .ok (.iaload, 1) := by decide +kernel
theorem dX8_setUp_19 : decode cX8_setUp 19 = .ok (.iconst 1, 1) := by decide +kernel
theorem dX8_setUp_20 : decode cX8_setUp 20 = .ok (.isub, 1) := by decide +kernel
theorem dX8_setUp_21 : decode cX8_setUp 21 = .ok (.i2l, 1) := by decide +kernel
theorem dX8_setUp_22 : decode cX8_setUp 22 = .ok (.invokestatic 54, 3) := by decide +kernel
theorem dX8_setUp_25 : decode cX8_setUp 25 = .ok (.ifCond .eq 52, 3) := by decide +kernel
theorem dX8_setUp_28 : decode cX8_setUp 28 = .ok (.iload_n 2, 1) := by decide +kernel
theorem dX8_setUp_29 : decode cX8_setUp 29 = .ok (.i2l, 1) := by decide +kernel
theorem dX8_setUp_30 : decode cX8_setUp 30 = .ok (.lconst 1, 1) := by decide +kernel
theorem dX8_setUp_31 : decode cX8_setUp 31 = .ok (.ldc2_w 194, 3) := by decide +kernel
theorem dX8_setUp_34 : decode cX8_setUp 34 = .ok (.invokestatic 54, 3) := by decide +kernel
theorem dX8_setUp_37 : decode cX8_setUp 37 = .ok (.ifCond .eq 40, 3) := by decide +kernel
theorem dX8_setUp_40 : decode cX8_setUp 40 = .ok (.iload_n 3, 1) := by decide +kernel
theorem dX8_setUp_41 : decode cX8_setUp 41 = .ok (.i2l, 1) := by decide +kernel
theorem dX8_setUp_42 : decode cX8_setUp 42 = .ok (.ldc2_w 196, 3) := by decide +kernel
theorem dX8_setUp_45 : decode cX8_setUp 45 = .ok (.ldc2_w 198, 3) := by decide +kernel
theorem dX8_setUp_48 : decode cX8_setUp 48 = .ok (.invokestatic 54, 3) := by decide +kernel
theorem dX8_setUp_51 : decode cX8_setUp 51 = .ok (.ifCond .eq 26, 3) := by decide +kernel
theorem dX8_setUp_54 : decode cX8_setUp 54 = .ok (.iload_n 3, 1) := by decide +kernel
theorem dX8_setUp_55 : decode cX8_setUp 55 = .ok (.i2l, 1) := by decide +kernel
theorem dX8_setUp_56 : decode cX8_setUp 56 = .ok (.aload_n 0, 1) := by decide +kernel
theorem dX8_setUp_57 : decode cX8_setUp 57 = .ok (.getfield 22, 3) := by decide +kernel
theorem dX8_setUp_60 : decode cX8_setUp 60 = .ok (.iconst 2, 1) := by decide +kernel
theorem dX8_setUp_61 : decode cX8_setUp 61 = .ok (.iaload, 1) := by decide +kernel
theorem dX8_setUp_62 : decode cX8_setUp 62 = .ok (.ineg, 1) := by decide +kernel
theorem dX8_setUp_63 : decode cX8_setUp 63 = .ok (.i2l, 1) := by decide +kernel
theorem dX8_setUp_64 : decode cX8_setUp 64 = .ok (.aload_n 0, 1) := by decide +kernel
theorem dX8_setUp_65 : decode cX8_setUp 65 = .ok (.getfield 22, 3) := by decide +kernel
theorem dX8_setUp_68 : decode cX8_setUp 68 = .ok (.iconst 2, 1) := by decide +kernel
theorem dX8_setUp_69 : decode cX8_setUp 69 = .ok (.iaload, 1) := by decide +kernel
theorem dX8_setUp_70 : decode cX8_setUp 70 = .ok (.i2l, 1) := by decide +kernel
theorem dX8_setUp_71 : decode cX8_setUp 71 = .ok (.invokestatic 54, 3) := by decide +kernel
theorem dX8_setUp_74 : decode cX8_setUp 74 = .ok (.ifCond .ne 6, 3) := by decide +kernel
theorem dX8_setUp_77 : decode cX8_setUp 77 = .ok (.ldc 64, 2) := by decide +kernel
theorem dX8_setUp_79 : decode cX8_setUp 79 = .ok (.ireturn, 1) := by decide +kernel
theorem dX8_setUp_80 : decode cX8_setUp 80 = .ok (.aload_n 0, 1) := by decide +kernel
theorem dX8_setUp_81 : decode cX8_setUp 81 = .ok (.invokevirtual 188, 3) := by decide +kernel
theorem dX8_setUp_84 : decode cX8_setUp 84 = .ok (.aload_n 0, 1) := by decide +kernel
theorem dX8_setUp_85 : decode cX8_setUp 85 = .ok (.getfield 150, 3) := by decide +kernel
theorem dX8_setUp_88 : decode cX8_setUp 88 = .ok (.istore 4, 2) := by decide +kernel
theorem dX8_setUp_90 : decode cX8_setUp 90 = .ok (.aload_n 0, 1) := by decide +kernel
theorem dX8_setUp_91 : decode cX8_setUp 91 = .ok (.iload_n 1, 1) := by decide +kernel
theorem dX8_setUp_92 : decode cX8_setUp 92 = .ok (.iload_n 2, 1) := by decide +kernel
theorem dX8_setUp_93 : decode cX8_setUp 93 = .ok (.iload_n 3, 1) := by decide +kernel
theorem dX8_setUp_94 : decode cX8_setUp 94 = .ok (.iconst 0, 1) := by decide +kernel
theorem dX8_setUp_95 : decode cX8_setUp 95 = .ok (.invokevirtual 140, 3) := by decide +kernel
theorem dX8_setUp_98 : decode cX8_setUp 98 = .ok (.iload 4, 2) := by decide +kernel
theorem dX8_setUp_100 : decode cX8_setUp 100 = .ok (.ireturn, 1) := by decide +kernel
set_option maxRecDepth 20000 in
theorem ggX8_lay_X8_in : GoodIn wsX8_lay wsX8_in := goodIn_r _ [9] (by decide +kernel) (by decide +kernel)
set_option maxRecDepth 20000 in
theorem gX8_lay_X8_in : GoodIn wsX8_lay (va_wsS RX8 54 yX8_in wsX8_in) := goodIn_app (goodIn_of _ (by decide +kernel)) ggX8_lay_X8_in
set_option maxRecDepth 20000 in
theorem ggX8_lay_X8_notes : GoodIn wsX8_lay wsX8_notes := goodIn_r _ [13, 14, 15, 16, 17, 18, 19, 20, 3, 21, 22, 23, 24, 25, 26, 27, 28, 29, 30, 31, 32, 33, 34, 35, 36, 37, 38, 39, 40, 41, 42, 43, 44, 45, 46, 47, 48, 49, 50, 51, 52, 53] (by decide +kernel) (by decide +kernel)
set_option maxRecDepth 20000 in
theorem gX8_lay_X8_notes : GoodIn wsX8_lay (wsV RX8 188 RX8 yX8_notes wsX8_notes) := goodIn_app (goodIn_of _ (by decide +kernel)) ggX8_lay_X8_notes
theorem dX8_lay_0 : decode cX8_lay 0 = .ok (.aload_n 0, 1) := by decide +kernel
theorem dX8_lay_1 : decode cX8_lay 1 = .ok (.getfield 136, 3) := by decide +kernel
theorem dX8_lay_4 : decode cX8_lay 4 = .ok (.ifCond .ne 6, 3) := by decide +kernel
theorem dX8_lay_7 : decode cX8_lay 7 = .ok (.ldc 184, 2) := by decide +kernel
theorem dX8_lay_9 : decode cX8_lay 9 = .ok (.ireturn, 1) := by decide +kernel
theorem dX8_lay_10 : decode cX8_lay 10 = .ok (.iload_n 1, 1) := by decide +kernel
theorem dX8_lay_11 : decode cX8_lay 11 = .ok (.i2l, 1) := by decide +kernel
theorem dX8_lay_12 : decode cX8_lay 12 = .ok (.lconst 0, 1) := by decide +kernel
theorem dX8_lay_13 : decode cX8_lay 13 = .ok (.aload_n 0, 1) := by decide +kernel
theorem dX8_lay_14 : decode cX8_lay 14 = .ok (.getfield 22, 3) := by decide +kernel
theorem dX8_lay_17 : decode cX8_lay 17 = .ok (.iconst 0, 1) := by decide +kernel
theorem dX8_lay_18 : decode cX8_lay 18 = .ok (.iaload, 1) := by decide +kernel
theorem dX8_lay_19 : decode cX8_lay 19 = .ok (.iconst 1, 1) := by decide +kernel
theorem dX8_lay_20 : decode cX8_lay 20 = .ok (.isub, 1) := by decide +kernel
theorem dX8_lay_21 : decode cX8_lay 21 = .ok (.i2l, 1) := by decide +kernel
theorem dX8_lay_22 : decode cX8_lay 22 = .ok (.invokestatic 54, 3) := by decide +kernel
theorem dX8_lay_25 : decode cX8_lay 25 = .ok (.ifCond .eq 15, 3) := by decide +kernel
theorem dX8_lay_28 : decode cX8_lay 28 = .ok (.iload_n 2, 1) := by decide +kernel
theorem dX8_lay_29 : decode cX8_lay 29 = .ok (.i2l, 1) := by decide +kernel
theorem dX8_lay_30 : decode cX8_lay 30 = .ok (.lconst 0, 1) := by decide +kernel
theorem dX8_lay_31 : decode cX8_lay 31 = .ok (.ldc2_w 198, 3) := by decide +kernel
theorem dX8_lay_34 : decode cX8_lay 34 = .ok (.invokestatic 54, 3) := by decide +kernel
theorem dX8_lay_37 : decode cX8_lay 37 = .ok (.ifCond .ne 6, 3) := by decide +kernel
theorem dX8_lay_40 : decode cX8_lay 40 = .ok (.ldc 64, 2) := by decide +kernel
theorem dX8_lay_42 : decode cX8_lay 42 = .ok (.ireturn, 1) := by decide +kernel
theorem dX8_lay_43 : decode cX8_lay 43 = .ok (.aload_n 0, 1) := by decide +kernel
theorem dX8_lay_44 : decode cX8_lay 44 = .ok (.invokevirtual 188, 3) := by decide +kernel
theorem dX8_lay_47 : decode cX8_lay 47 = .ok (.aload_n 0, 1) := by decide +kernel
theorem dX8_lay_48 : decode cX8_lay 48 = .ok (.getfield 22, 3) := by decide +kernel
theorem dX8_lay_51 : decode cX8_lay 51 = .ok (.iconst 4, 1) := by decide +kernel
theorem dX8_lay_52 : decode cX8_lay 52 = .ok (.iload_n 1, 1) := by decide +kernel
theorem dX8_lay_53 : decode cX8_lay 53 = .ok (.iadd, 1) := by decide +kernel
theorem dX8_lay_54 : decode cX8_lay 54 = .ok (.iaload, 1) := by decide +kernel
theorem dX8_lay_55 : decode cX8_lay 55 = .ok (.istore_n 3, 1) := by decide +kernel
theorem dX8_lay_56 : decode cX8_lay 56 = .ok (.aload_n 0, 1) := by decide +kernel
theorem dX8_lay_57 : decode cX8_lay 57 = .ok (.getfield 22, 3) := by decide +kernel
theorem dX8_lay_60 : decode cX8_lay 60 = .ok (.iconst 4, 1) := by decide +kernel
theorem dX8_lay_61 : decode cX8_lay 61 = .ok (.iload_n 1, 1) := by decide +kernel
theorem dX8_lay_62 : decode cX8_lay 62 = .ok (.iadd, 1) := by decide +kernel
theorem dX8_lay_63 : decode cX8_lay 63 = .ok (.iload_n 2, 1) := by decide +kernel
theorem dX8_lay_64 : decode cX8_lay 64 = .ok (.iastore, 1) := by decide +kernel
theorem dX8_lay_65 : decode cX8_lay 65 = .ok (.iload_n 3, 1) := by decide +kernel
theorem dX8_lay_66 : decode cX8_lay 66 = .ok (.ireturn, 1) := by decide +kernel
theorem dX8_hoopOf_0 : decode cX8_hoopOf 0 = .ok (.iload_n 1, 1) := by decide +kernel
theorem dX8_hoopOf_1 : decode cX8_hoopOf 1 = .ok (.ifCond .ne 10, 3) := by decide +kernel
theorem dX8_hoopOf_4 : decode cX8_hoopOf 4 = .ok (.aload_n 0, 1) := by decide +kernel
theorem dX8_hoopOf_5 : decode cX8_hoopOf 5 = .ok (.getfield 150, 3) := by decide +kernel
theorem dX8_hoopOf_8 : decode cX8_hoopOf 8 = .ok (.goto 43, 3) := by decide +kernel
theorem dX8_hoopOf_11 : decode cX8_hoopOf 11 = .ok (.iload_n 1, 1) := by decide +kernel
theorem dX8_hoopOf_12 : decode cX8_hoopOf 12 = .ok (.iconst 1, 1) := by decide +kernel
theorem dX8_hoopOf_13 : decode cX8_hoopOf 13 = .ok (.if_icmp .ne 10, 3) := by decide +kernel
theorem dX8_hoopOf_16 : decode cX8_hoopOf 16 = .ok (.aload_n 0, 1) := by decide +kernel
theorem dX8_hoopOf_17 : decode cX8_hoopOf 17 = .ok (.getfield 153, 3) := by decide +kernel
theorem dX8_hoopOf_20 : decode cX8_hoopOf 20 = .ok (.goto 31, 3) := by decide +kernel
theorem dX8_hoopOf_23 : decode cX8_hoopOf 23 = .ok (.iload_n 1, 1) := by decide +kernel
theorem dX8_hoopOf_24 : decode cX8_hoopOf 24 = .ok (.iconst 2, 1) := by decide +kernel
theorem dX8_hoopOf_25 : decode cX8_hoopOf 25 = .ok (.if_icmp .ne 10, 3) := by decide +kernel
theorem dX8_hoopOf_28 : decode cX8_hoopOf 28 = .ok (.aload_n 0, 1) := by decide +kernel
theorem dX8_hoopOf_29 : decode cX8_hoopOf 29 = .ok (.getfield 156, 3) := by decide +kernel
theorem dX8_hoopOf_32 : decode cX8_hoopOf 32 = .ok (.goto 19, 3) := by decide +kernel
theorem dX8_hoopOf_35 : decode cX8_hoopOf 35 = .ok (.iload_n 1, 1) := by decide +kernel
theorem dX8_hoopOf_36 : decode cX8_hoopOf 36 = .ok (.iconst 3, 1) := by decide +kernel
theorem dX8_hoopOf_37 : decode cX8_hoopOf 37 = .ok (.if_icmp .ne 10, 3) := by decide +kernel
theorem dX8_hoopOf_40 : decode cX8_hoopOf 40 = .ok (.aload_n 0, 1) := by decide +kernel
theorem dX8_hoopOf_41 : decode cX8_hoopOf 41 = .ok (.getfield 159, 3) := by decide +kernel
theorem dX8_hoopOf_44 : decode cX8_hoopOf 44 = .ok (.goto 7, 3) := by decide +kernel
theorem dX8_hoopOf_47 : decode cX8_hoopOf 47 = .ok (.aload_n 0, 1) := by decide +kernel
theorem dX8_hoopOf_48 : decode cX8_hoopOf 48 = .ok (.getfield 144, 3) := by decide +kernel
theorem dX8_hoopOf_51 : decode cX8_hoopOf 51 = .ok (.ireturn, 1) := by decide +kernel
set_option maxRecDepth 20000 in
theorem ggX8_hoop_X8_in : GoodIn wsX8_hoop wsX8_in := goodIn_r _ [8] (by decide +kernel) (by decide +kernel)
set_option maxRecDepth 20000 in
theorem gX8_hoop_X8_in : GoodIn wsX8_hoop (va_wsS RX8 54 yX8_in wsX8_in) := goodIn_app (goodIn_of _ (by decide +kernel)) ggX8_hoop_X8_in
set_option maxRecDepth 20000 in
theorem ggX8_hoop_X8_hoopOf : GoodIn wsX8_hoop wsX8_hoopOf := goodIn_r _ [12, 13, 14, 15, 16, 17, 18, 19, 20, 21, 22, 23, 24, 25, 26, 27, 28, 29, 30, 31, 32, 33, 34, 35, 36, 37, 38, 39, 40, 41, 42, 43, 44, 45, 46, 47, 48, 49, 50] (by decide +kernel) (by decide +kernel)
set_option maxRecDepth 20000 in
theorem gX8_hoop_X8_hoopOf : GoodIn wsX8_hoop (wsV RX8 202 RX8 yX8_hoopOf wsX8_hoopOf) := goodIn_app (goodIn_of _ (by decide +kernel)) ggX8_hoop_X8_hoopOf
theorem dX8_hoop_0 : decode cX8_hoop 0 = .ok (.aload_n 0, 1) := by decide +kernel
theorem dX8_hoop_1 : decode cX8_hoop 1 = .ok (.getfield 136, 3) := by decide +kernel
theorem dX8_hoop_4 : decode cX8_hoop 4 = .ok (.ifCond .ne 8, 3) := by decide +kernel
theorem dX8_hoop_7 : decode cX8_hoop 7 = .ok (.ldc 184, 2) := by decide +kernel
theorem dX8_hoop_9 : decode cX8_hoop 9 = .ok (.goto 25, 3) := by decide +kernel
theorem dX8_hoop_12 : decode cX8_hoop 12 = .ok (.iload_n 1, 1) := by decide +kernel
theorem dX8_hoop_13 : decode cX8_hoop 13 = .ok (.i2l, 1) := by decide +kernel
theorem dX8_hoop_14 : decode cX8_hoop 14 = .ok (.lconst 0, 1) := by decide +kernel
theorem dX8_hoop_15 : decode cX8_hoop 15 = .ok (.ldc2_w 200, 3) := by decide +kernel
theorem dX8_hoop_18 : decode cX8_hoop 18 = .ok (.invokestatic 54, 3) := by decide +kernel
theorem dX8_hoop_21 : decode cX8_hoop 21 = .ok (.ifCond .eq 11, 3) := by decide +kernel
theorem dX8_hoop_24 : decode cX8_hoop 24 = .ok (.aload_n 0, 1) := by decide +kernel
theorem dX8_hoop_25 : decode cX8_hoop 25 = .ok (.iload_n 1, 1) := by decide +kernel
theorem dX8_hoop_26 : decode cX8_hoop 26 = .ok (.invokevirtual 202, 3) := by decide +kernel
theorem dX8_hoop_29 : decode cX8_hoop 29 = .ok (.goto 5, 3) := by decide +kernel
theorem dX8_hoop_32 : decode cX8_hoop 32 = .ok (.ldc 64, 2) := by decide +kernel
theorem dX8_hoop_34 : decode cX8_hoop 34 = .ok (.ireturn, 1) := by decide +kernel
set_option maxRecDepth 20000 in
theorem ggX8_ground_X8_in : GoodIn wsX8_ground wsX8_in := goodIn_r _ [6] (by decide +kernel) (by decide +kernel)
set_option maxRecDepth 20000 in
theorem gX8_ground_X8_in : GoodIn wsX8_ground (va_wsS RX8 54 yX8_in wsX8_in) := goodIn_app (goodIn_of _ (by decide +kernel)) ggX8_ground_X8_in
theorem dX8_ground_0 : decode cX8_ground 0 = .ok (.iload_n 1, 1) := by decide +kernel
theorem dX8_ground_1 : decode cX8_ground 1 = .ok (.i2l, 1) := by decide +kernel
theorem dX8_ground_2 : decode cX8_ground 2 = .ok (.lconst 0, 1) := by decide +kernel
theorem dX8_ground_3 : decode cX8_ground 3 = .ok (.aload_n 0, 1) := by decide +kernel
theorem dX8_ground_4 : decode cX8_ground 4 = .ok (.getfield 22, 3) := by decide +kernel
theorem dX8_ground_7 : decode cX8_ground 7 = .ok (.iconst 0, 1) := by decide +kernel
theorem dX8_ground_8 : decode cX8_ground 8 = .ok (.iaload, 1) := by decide +kernel
theorem dX8_ground_9 : decode cX8_ground 9 = .ok (.iconst 1, 1) := by decide +kernel
theorem dX8_ground_10 : decode cX8_ground 10 = .ok (.isub, 1) := by decide +kernel
theorem dX8_ground_11 : decode cX8_ground 11 = .ok (.i2l, 1) := by decide +kernel
theorem dX8_ground_12 : decode cX8_ground 12 = .ok (.invokestatic 54, 3) := by decide +kernel
theorem dX8_ground_15 : decode cX8_ground 15 = .ok (.ifCond .eq 14, 3) := by decide +kernel
theorem dX8_ground_18 : decode cX8_ground 18 = .ok (.aload_n 0, 1) := by decide +kernel
theorem dX8_ground_19 : decode cX8_ground 19 = .ok (.getfield 22, 3) := by decide +kernel
theorem dX8_ground_22 : decode cX8_ground 22 = .ok (.iconst 4, 1) := by decide +kernel
theorem dX8_ground_23 : decode cX8_ground 23 = .ok (.iload_n 1, 1) := by decide +kernel
theorem dX8_ground_24 : decode cX8_ground 24 = .ok (.iadd, 1) := by decide +kernel
theorem dX8_ground_25 : decode cX8_ground 25 = .ok (.iaload, 1) := by decide +kernel
theorem dX8_ground_26 : decode cX8_ground 26 = .ok (.goto 5, 3) := by decide +kernel
theorem dX8_ground_29 : decode cX8_ground 29 = .ok (.ldc 64, 2) := by decide +kernel
theorem dX8_ground_31 : decode cX8_ground 31 = .ok (.ireturn, 1) := by decide +kernel
set_option maxRecDepth 20000 in
theorem ggX8_force_X8_isTap : GoodIn wsX8_force wsX8_isTap := goodIn_r _ [6, 7, 8, 9, 5, 10, 15, 16, 17, 18, 19, 20, 21, 22, 23, 24, 25, 26, 27, 28, 29, 30, 31, 32, 33, 34, 35, 36, 37, 38, 39, 40, 41, 42, 43, 44, 45, 46, 47] (by decide +kernel) (by decide +kernel)
set_option maxRecDepth 20000 in
theorem gX8_force_X8_isTap : GoodIn wsX8_force (wsV RX8 185 RX8 yX8_isTap wsX8_isTap) := goodIn_app (goodIn_of _ (by decide +kernel)) ggX8_force_X8_isTap
set_option maxRecDepth 20000 in
theorem ggX8_force_X8_forceAt : GoodIn wsX8_force wsX8_forceAt := goodIn_r _ [14, 7, 15, 16, 17, 18, 19, 20, 21, 22, 23, 24, 25, 26, 27, 28, 29, 30, 31, 32, 33, 34, 35, 36, 37, 38, 39, 40, 41, 42, 43, 44, 45, 46, 47] (by decide +kernel) (by decide +kernel)
set_option maxRecDepth 20000 in
theorem gX8_force_X8_forceAt : GoodIn wsX8_force (wsV RX8 178 RX8 yX8_forceAt wsX8_forceAt) := goodIn_app (goodIn_of _ (by decide +kernel)) ggX8_force_X8_forceAt
theorem dX8_force_0 : decode cX8_force 0 = .ok (.aload_n 0, 1) := by decide +kernel
theorem dX8_force_1 : decode cX8_force 1 = .ok (.iload_n 1, 1) := by decide +kernel
theorem dX8_force_2 : decode cX8_force 2 = .ok (.invokevirtual 185, 3) := by decide +kernel
theorem dX8_force_5 : decode cX8_force 5 = .ok (.ifCond .eq 11, 3) := by decide +kernel
theorem dX8_force_8 : decode cX8_force 8 = .ok (.aload_n 0, 1) := by decide +kernel
theorem dX8_force_9 : decode cX8_force 9 = .ok (.iload_n 1, 1) := by decide +kernel
theorem dX8_force_10 : decode cX8_force 10 = .ok (.invokevirtual 178, 3) := by decide +kernel
theorem dX8_force_13 : decode cX8_force 13 = .ok (.goto 5, 3) := by decide +kernel
theorem dX8_force_16 : decode cX8_force 16 = .ok (.ldc 64, 2) := by decide +kernel
theorem dX8_force_18 : decode cX8_force 18 = .ok (.ireturn, 1) := by decide +kernel
theorem dX8_asides_0 : decode cX8_asides 0 = .ok (.aload_n 0, 1) := by decide +kernel
theorem dX8_asides_1 : decode cX8_asides 1 = .ok (.aload_n 0, 1) := by decide +kernel
theorem dX8_asides_2 : decode cX8_asides 2 = .ok (.getfield 150, 3) := by decide +kernel
theorem dX8_asides_5 : decode cX8_asides 5 = .ok (.putfield 205, 3) := by decide +kernel
theorem dX8_asides_8 : decode cX8_asides 8 = .ok (.aload_n 0, 1) := by decide +kernel
theorem dX8_asides_9 : decode cX8_asides 9 = .ok (.aload_n 0, 1) := by decide +kernel
theorem dX8_asides_10 : decode cX8_asides 10 = .ok (.getfield 153, 3) := by decide +kernel
theorem dX8_asides_13 : decode cX8_asides 13 = .ok (.putfield 208, 3) := by decide +kernel
theorem dX8_asides_16 : decode cX8_asides 16 = .ok (.aload_n 0, 1) := by decide +kernel
theorem dX8_asides_17 : decode cX8_asides 17 = .ok (.aload_n 0, 1) := by decide +kernel
theorem dX8_asides_18 : decode cX8_asides 18 = .ok (.getfield 156, 3) := by decide +kernel
theorem dX8_asides_21 : decode cX8_asides 21 = .ok (.putfield 211, 3) := by decide +kernel
theorem dX8_asides_24 : decode cX8_asides 24 = .ok (.aload_n 0, 1) := by decide +kernel
theorem dX8_asides_25 : decode cX8_asides 25 = .ok (.aload_n 0, 1) := by decide +kernel
theorem dX8_asides_26 : decode cX8_asides 26 = .ok (.getfield 159, 3) := by decide +kernel
theorem dX8_asides_29 : decode cX8_asides 29 = .ok (.putfield 214, 3) := by decide +kernel
theorem dX8_asides_32 : decode cX8_asides 32 = .ok (.aload_n 0, 1) := by decide +kernel
theorem dX8_asides_33 : decode cX8_asides 33 = .ok (.aload_n 0, 1) := by decide +kernel
theorem dX8_asides_34 : decode cX8_asides 34 = .ok (.getfield 144, 3) := by decide +kernel
theorem dX8_asides_37 : decode cX8_asides 37 = .ok (.putfield 217, 3) := by decide +kernel
theorem dX8_asides_40 : decode cX8_asides 40 = .ok (.return_, 1) := by decide +kernel
set_option maxRecDepth 20000 in
theorem ggX8_backs_X8_puts : GoodIn wsX8_backs wsX8_puts := goodIn_r _ [11, 12, 13, 14, 15, 16, 17, 18, 19, 20, 21, 22, 23, 24, 25, 26, 27, 28, 29, 30, 31, 32, 33, 34, 35, 36, 37, 38, 39, 40, 41, 42, 43, 44, 45, 46, 47, 48] (by decide +kernel) (by decide +kernel)
set_option maxRecDepth 20000 in
theorem gX8_backs_X8_puts : GoodIn wsX8_backs (wsV RX8 140 RX8 yX8_puts wsX8_puts) := goodIn_app (goodIn_of _ (by decide +kernel)) ggX8_backs_X8_puts
theorem dX8_backs_0 : decode cX8_backs 0 = .ok (.aload_n 0, 1) := by decide +kernel
theorem dX8_backs_1 : decode cX8_backs 1 = .ok (.aload_n 0, 1) := by decide +kernel
theorem dX8_backs_2 : decode cX8_backs 2 = .ok (.getfield 205, 3) := by decide +kernel
theorem dX8_backs_5 : decode cX8_backs 5 = .ok (.aload_n 0, 1) := by decide +kernel
theorem dX8_backs_6 : decode cX8_backs 6 = .ok (.getfield 208, 3) := by decide +kernel
theorem dX8_backs_9 : decode cX8_backs 9 = .ok (.aload_n 0, 1) := by decide +kernel
theorem dX8_backs_10 : decode cX8_backs 10 = .ok (.getfield 211, 3) := by decide +kernel
theorem dX8_backs_13 : decode cX8_backs 13 = .ok (.aload_n 0, 1) := by decide +kernel
theorem dX8_backs_14 : decode cX8_backs 14 = .ok (.getfield 214, 3) := by decide +kernel
theorem dX8_backs_17 : decode cX8_backs 17 = .ok (.invokevirtual 140, 3) := by decide +kernel
theorem dX8_backs_20 : decode cX8_backs 20 = .ok (.aload_n 0, 1) := by decide +kernel
theorem dX8_backs_21 : decode cX8_backs 21 = .ok (.aload_n 0, 1) := by decide +kernel
theorem dX8_backs_22 : decode cX8_backs 22 = .ok (.getfield 217, 3) := by decide +kernel
theorem dX8_backs_25 : decode cX8_backs 25 = .ok (.putfield 144, 3) := by decide +kernel
theorem dX8_backs_28 : decode cX8_backs 28 = .ok (.return_, 1) := by decide +kernel
set_option maxRecDepth 20000 in
theorem ggX8_ahead_X8_in : GoodIn wsX8_ahead wsX8_in := goodIn_r _ [10] (by decide +kernel) (by decide +kernel)
set_option maxRecDepth 20000 in
theorem gX8_ahead_X8_in : GoodIn wsX8_ahead (va_wsS RX8 54 yX8_in wsX8_in) := goodIn_app (goodIn_of _ (by decide +kernel)) ggX8_ahead_X8_in
set_option maxRecDepth 20000 in
theorem ggX8_ahead_X8_asides : GoodIn wsX8_ahead wsX8_asides := goodIn_r _ [14, 15, 16, 17, 18, 19, 20, 6, 21, 22, 23, 56, 57, 58, 59, 60, 61, 62, 63, 64, 65, 66, 67, 68, 69, 70, 71, 72, 73, 74, 75, 76, 77, 78, 79, 80, 81, 82, 83, 84, 85, 86, 87, 88] (by decide +kernel) (by decide +kernel)
set_option maxRecDepth 20000 in
theorem gX8_ahead_X8_asides : GoodIn wsX8_ahead (wsV RX8 224 RX8 yX8_asides wsX8_asides) := goodIn_app (goodIn_of _ (by decide +kernel)) ggX8_ahead_X8_asides
set_option maxRecDepth 20000 in
theorem ggX8_ahead_X8_goes : GoodIn wsX8_ahead wsX8_goes := goodIn_r _ [27, 15, 17, 22, 28, 6, 19, 29, 30, 31, 9, 32, 33, 34, 35, 36, 37, 38, 39, 40, 41, 42, 43, 56, 57, 58, 59, 60, 61, 62, 63, 64, 65, 66, 67, 68, 69, 70, 71, 72, 73, 74, 75, 76, 77, 78, 79, 80, 81, 82, 83, 84, 85, 86, 87, 88] (by decide +kernel) (by decide +kernel)
set_option maxRecDepth 20000 in
theorem gX8_ahead_X8_goes : GoodIn wsX8_ahead (wsV RX8 181 RX8 yX8_goes wsX8_goes) := goodIn_app (goodIn_of _ (by decide +kernel)) ggX8_ahead_X8_goes
set_option maxRecDepth 20000 in
theorem ggX8_ahead_X8_hoopOf : GoodIn wsX8_ahead wsX8_hoopOf := goodIn_r _ [47, 15, 17, 19, 6, 22, 56, 57, 58, 59, 60, 61, 62, 63, 64, 65, 66, 67, 68, 69, 70, 71, 72, 73, 74, 75, 76, 77, 78, 79, 80, 81, 82, 83, 84, 85, 86, 87, 88] (by decide +kernel) (by decide +kernel)
set_option maxRecDepth 20000 in
theorem gX8_ahead_X8_hoopOf : GoodIn wsX8_ahead (wsV RX8 202 RX8 yX8_hoopOf wsX8_hoopOf) := goodIn_app (goodIn_of _ (by decide +kernel)) ggX8_ahead_X8_hoopOf
set_option maxRecDepth 20000 in
theorem ggX8_ahead_X8_backs : GoodIn wsX8_ahead wsX8_backs := goodIn_r _ [51, 16, 18, 20, 21, 23, 22, 52, 53, 54, 9, 55, 15, 17, 19, 6, 56, 57, 58, 59, 60, 61, 62, 63, 64, 65, 66, 67, 68, 69, 70, 71, 72, 73, 74, 75, 76, 77, 78, 79, 80, 81, 82, 83, 84, 85, 86, 87, 88] (by decide +kernel) (by decide +kernel)
set_option maxRecDepth 20000 in
theorem gX8_ahead_X8_backs : GoodIn wsX8_ahead (wsV RX8 227 RX8 yX8_backs wsX8_backs) := goodIn_app (goodIn_of _ (by decide +kernel)) ggX8_ahead_X8_backs
theorem dX8_ahead_0 : decode cX8_ahead 0 = .ok (.aload_n 0, 1) := by decide +kernel
theorem dX8_ahead_1 : decode cX8_ahead 1 = .ok (.getfield 136, 3) := by decide +kernel
theorem dX8_ahead_4 : decode cX8_ahead 4 = .ok (.ifCond .ne 6, 3) := by decide +kernel
theorem dX8_ahead_7 : decode cX8_ahead 7 = .ok (.ldc 184, 2) := by decide +kernel
theorem dX8_ahead_9 : decode cX8_ahead 9 = .ok (.ireturn, 1) := by decide +kernel
theorem dX8_ahead_10 : decode cX8_ahead 10 = .ok (.iload_n 1, 1) := by decide +kernel
theorem dX8_ahead_11 : decode cX8_ahead 11 = .ok (.i2l, 1) := by decide +kernel
theorem dX8_ahead_12 : decode cX8_ahead 12 = .ok (.lconst 0, 1) := by decide +kernel
theorem dX8_ahead_13 : decode cX8_ahead 13 = .ok (.ldc2_w 220, 3) := by decide +kernel
theorem dX8_ahead_16 : decode cX8_ahead 16 = .ok (.invokestatic 54, 3) := by decide +kernel
theorem dX8_ahead_19 : decode cX8_ahead 19 = .ok (.ifCond .eq 15, 3) := by decide +kernel
theorem dX8_ahead_22 : decode cX8_ahead 22 = .ok (.iload_n 2, 1) := by decide +kernel
theorem dX8_ahead_23 : decode cX8_ahead 23 = .ok (.i2l, 1) := by decide +kernel
theorem dX8_ahead_24 : decode cX8_ahead 24 = .ok (.lconst 0, 1) := by decide +kernel
theorem dX8_ahead_25 : decode cX8_ahead 25 = .ok (.ldc2_w 222, 3) := by decide +kernel
theorem dX8_ahead_28 : decode cX8_ahead 28 = .ok (.invokestatic 54, 3) := by decide +kernel
theorem dX8_ahead_31 : decode cX8_ahead 31 = .ok (.ifCond .ne 6, 3) := by decide +kernel
theorem dX8_ahead_34 : decode cX8_ahead 34 = .ok (.ldc 64, 2) := by decide +kernel
theorem dX8_ahead_36 : decode cX8_ahead 36 = .ok (.ireturn, 1) := by decide +kernel
theorem dX8_ahead_37 : decode cX8_ahead 37 = .ok (.aload_n 0, 1) := by decide +kernel
theorem dX8_ahead_38 : decode cX8_ahead 38 = .ok (.invokevirtual 224, 3) := by decide +kernel
theorem dX8_ahead_41 : decode cX8_ahead 41 = .ok (.iconst 0, 1) := by decide +kernel
theorem dX8_ahead_42 : decode cX8_ahead 42 = .ok (.istore_n 3, 1) := by decide +kernel
theorem dX8_ahead_43 : decode cX8_ahead 43 = .ok (.iload_n 3, 1) := by decide +kernel
theorem dX8_ahead_44 : decode cX8_ahead 44 = .ok (.iload_n 1, 1) := by decide +kernel
theorem dX8_ahead_45 : decode cX8_ahead 45 = .ok (.if_icmp .ge 22, 3) := by decide +kernel
theorem dX8_ahead_48 : decode cX8_ahead 48 = .ok (.aload_n 0, 1) := by decide +kernel
theorem dX8_ahead_49 : decode cX8_ahead 49 = .ok (.getfield 159, 3) := by decide +kernel
theorem dX8_ahead_52 : decode cX8_ahead 52 = .ok (.ifCond .ne 15, 3) := by decide +kernel
theorem dX8_ahead_55 : decode cX8_ahead 55 = .ok (.aload_n 0, 1) := by decide +kernel
theorem dX8_ahead_56 : decode cX8_ahead 56 = .ok (.iconst 0, 1) := by decide +kernel
theorem dX8_ahead_57 : decode cX8_ahead 57 = .ok (.iconst 0, 1) := by decide +kernel
theorem dX8_ahead_58 : decode cX8_ahead 58 = .ok (.invokevirtual 181, 3) := by decide +kernel
theorem dX8_ahead_61 : decode cX8_ahead 61 = .ok (.iinc 3 1, 3) := by decide +kernel
theorem dX8_ahead_64 : decode cX8_ahead 64 = .ok (.goto (-21), 3) := by decide +kernel
theorem dX8_ahead_67 : decode cX8_ahead 67 = .ok (.aload_n 0, 1) := by decide +kernel
theorem dX8_ahead_68 : decode cX8_ahead 68 = .ok (.iload_n 2, 1) := by decide +kernel
theorem dX8_ahead_69 : decode cX8_ahead 69 = .ok (.invokevirtual 202, 3) := by decide +kernel
theorem dX8_ahead_72 : decode cX8_ahead 72 = .ok (.istore_n 3, 1) := by decide +kernel
theorem dX8_ahead_73 : decode cX8_ahead 73 = .ok (.aload_n 0, 1) := by decide +kernel
theorem dX8_ahead_74 : decode cX8_ahead 74 = .ok (.invokevirtual 227, 3) := by decide +kernel
theorem dX8_ahead_77 : decode cX8_ahead 77 = .ok (.iload_n 3, 1) := by decide +kernel
theorem dX8_ahead_78 : decode cX8_ahead 78 = .ok (.ireturn, 1) := by decide +kernel
theorem dX8_place_0 : decode cX8_place 0 = .ok (.bipush 110, 2) := by decide +kernel
theorem dX8_place_2 : decode cX8_place 2 = .ok (.iload_n 0, 1) := by decide +kernel
theorem dX8_place_3 : decode cX8_place 3 = .ok (.imul, 1) := by decide +kernel
theorem dX8_place_4 : decode cX8_place 4 = .ok (.bipush 11, 2) := by decide +kernel
theorem dX8_place_6 : decode cX8_place 6 = .ok (.iload_n 1, 1) := by decide +kernel
theorem dX8_place_7 : decode cX8_place 7 = .ok (.imul, 1) := by decide +kernel
theorem dX8_place_8 : decode cX8_place 8 = .ok (.iadd, 1) := by decide +kernel
theorem dX8_place_9 : decode cX8_place 9 = .ok (.iload_n 2, 1) := by decide +kernel
theorem dX8_place_10 : decode cX8_place 10 = .ok (.iadd, 1) := by decide +kernel
theorem dX8_place_11 : decode cX8_place 11 = .ok (.iconst 5, 1) := by decide +kernel
theorem dX8_place_12 : decode cX8_place 12 = .ok (.iadd, 1) := by decide +kernel
theorem dX8_place_13 : decode cX8_place 13 = .ok (.ireturn, 1) := by decide +kernel
set_option maxRecDepth 20000 in
theorem ggX8_costs_X8_puts : GoodIn wsX8_costs wsX8_puts := goodIn_r _ [10, 3, 4, 5, 1, 47, 48, 49, 50, 51, 52, 53, 54, 55, 56, 57, 58, 59, 60, 61, 62, 63, 64, 65, 66, 67, 68, 69, 70, 71, 72, 73, 74, 75, 76, 77, 78, 79] (by decide +kernel) (by decide +kernel)
set_option maxRecDepth 20000 in
theorem gX8_costs_X8_puts : GoodIn wsX8_costs (wsV RX8 140 RX8 yX8_puts wsX8_puts) := goodIn_app (goodIn_of _ (by decide +kernel)) ggX8_costs_X8_puts
set_option maxRecDepth 20000 in
theorem ggX8_costs_X8_goesWith : GoodIn wsX8_costs wsX8_goesWith := goodIn_r _ [14, 15, 16, 17, 9, 18, 19, 20, 21, 22, 23, 24, 25, 26, 27, 3, 4, 28, 1, 5, 29, 30, 31, 32, 33, 34, 35, 36, 37, 38, 39, 40, 41, 42, 43, 47, 48, 49, 50, 51, 52, 53, 54, 55, 56, 57, 58, 59, 60, 61, 62, 63, 64, 65, 66, 67, 68, 69, 70, 71, 72, 73, 74, 75, 76, 77, 78, 79] (by decide +kernel) (by decide +kernel)
set_option maxRecDepth 20000 in
theorem gX8_costs_X8_goesWith : GoodIn wsX8_costs (wsV RX8 191 RX8 yX8_goesWith wsX8_goesWith) := goodIn_app (goodIn_of _ (by decide +kernel)) ggX8_costs_X8_goesWith
set_option maxRecDepth 20000 in
theorem ggX8_costs_X8_place : GoodIn wsX8_costs wsX8_place := goodIn_r _ [46] (by decide +kernel) (by decide +kernel)
set_option maxRecDepth 20000 in
theorem gX8_costs_X8_place : GoodIn wsX8_costs (va_wsS RX8 230 yX8_place wsX8_place) := goodIn_app (goodIn_of _ (by decide +kernel)) ggX8_costs_X8_place
theorem dX8_costs_0 : decode cX8_costs 0 = .ok (.aload_n 0, 1) := by decide +kernel
theorem dX8_costs_1 : decode cX8_costs 1 = .ok (.iload_n 1, 1) := by decide +kernel
theorem dX8_costs_2 : decode cX8_costs 2 = .ok (.bipush 110, 2) := by decide +kernel
theorem dX8_costs_4 : decode cX8_costs 4 = .ok (.idiv, 1) := by decide +kernel
theorem dX8_costs_5 : decode cX8_costs 5 = .ok (.iload_n 1, 1) := by decide +kernel
theorem dX8_costs_6 : decode cX8_costs 6 = .ok (.bipush 11, 2) := by decide +kernel
theorem dX8_costs_8 : decode cX8_costs 8 = .ok (.idiv, 1) := by decide +kernel
theorem dX8_costs_9 : decode cX8_costs 9 = .ok (.bipush 10, 2) := by decide +kernel
theorem dX8_costs_11 : decode cX8_costs 11 = .ok (.irem, 1) := by decide +kernel
theorem dX8_costs_12 : decode cX8_costs 12 = .ok (.iload_n 1, 1) := by decide +kernel
theorem dX8_costs_13 : decode cX8_costs 13 = .ok (.bipush 11, 2) := by decide +kernel
theorem dX8_costs_15 : decode cX8_costs 15 = .ok (.irem, 1) := by decide +kernel
theorem dX8_costs_16 : decode cX8_costs 16 = .ok (.iconst 5, 1) := by decide +kernel
theorem dX8_costs_17 : decode cX8_costs 17 = .ok (.isub, 1) := by decide +kernel
theorem dX8_costs_18 : decode cX8_costs 18 = .ok (.iconst 0, 1) := by decide +kernel
theorem dX8_costs_19 : decode cX8_costs 19 = .ok (.invokevirtual 140, 3) := by decide +kernel
theorem dX8_costs_22 : decode cX8_costs 22 = .ok (.aload_n 0, 1) := by decide +kernel
theorem dX8_costs_23 : decode cX8_costs 23 = .ok (.iload_n 2, 1) := by decide +kernel
theorem dX8_costs_24 : decode cX8_costs 24 = .ok (.invokevirtual 191, 3) := by decide +kernel
theorem dX8_costs_27 : decode cX8_costs 27 = .ok (.iload_n 3, 1) := by decide +kernel
theorem dX8_costs_28 : decode cX8_costs 28 = .ok (.ifCond .eq 11, 3) := by decide +kernel
theorem dX8_costs_31 : decode cX8_costs 31 = .ok (.iload_n 2, 1) := by decide +kernel
theorem dX8_costs_32 : decode cX8_costs 32 = .ok (.ifCond .ge 7, 3) := by decide +kernel
theorem dX8_costs_35 : decode cX8_costs 35 = .ok (.iconst 0, 1) := by decide +kernel
theorem dX8_costs_36 : decode cX8_costs 36 = .ok (.goto 4, 3) := by decide +kernel
theorem dX8_costs_39 : decode cX8_costs 39 = .ok (.iconst 1, 1) := by decide +kernel
theorem dX8_costs_40 : decode cX8_costs 40 = .ok (.istore 4, 2) := by decide +kernel
theorem dX8_costs_42 : decode cX8_costs 42 = .ok (.aload_n 0, 1) := by decide +kernel
theorem dX8_costs_43 : decode cX8_costs 43 = .ok (.getfield 159, 3) := by decide +kernel
theorem dX8_costs_46 : decode cX8_costs 46 = .ok (.iconst 2, 1) := by decide +kernel
theorem dX8_costs_47 : decode cX8_costs 47 = .ok (.if_icmp .ne 8, 3) := by decide +kernel
theorem dX8_costs_50 : decode cX8_costs 50 = .ok (.iload 4, 2) := by decide +kernel
theorem dX8_costs_52 : decode cX8_costs 52 = .ok (.goto 40, 3) := by decide +kernel
theorem dX8_costs_55 : decode cX8_costs 55 = .ok (.aload_n 0, 1) := by decide +kernel
theorem dX8_costs_56 : decode cX8_costs 56 = .ok (.getfield 159, 3) := by decide +kernel
theorem dX8_costs_59 : decode cX8_costs 59 = .ok (.iconst 1, 1) := by decide +kernel
theorem dX8_costs_60 : decode cX8_costs 60 = .ok (.if_icmp .ne 9, 3) := by decide +kernel
theorem dX8_costs_63 : decode cX8_costs 63 = .ok (.sipush 9999, 3) := by decide +kernel
theorem dX8_costs_66 : decode cX8_costs 66 = .ok (.goto 26, 3) := by decide +kernel
theorem dX8_costs_69 : decode cX8_costs 69 = .ok (.iload 4, 2) := by decide +kernel
theorem dX8_costs_71 : decode cX8_costs 71 = .ok (.aload_n 0, 1) := by decide +kernel
theorem dX8_costs_72 : decode cX8_costs 72 = .ok (.getfield 34, 3) := by decide +kernel
theorem dX8_costs_75 : decode cX8_costs 75 = .ok (.aload_n 0, 1) := by decide +kernel
theorem dX8_costs_76 : decode cX8_costs 76 = .ok (.getfield 150, 3) := by decide +kernel
theorem dX8_costs_79 : decode cX8_costs 79 = .ok (.aload_n 0, 1) := by decide +kernel
theorem dX8_costs_80 : decode cX8_costs 80 = .ok (.getfield 153, 3) := by decide +kernel
theorem dX8_costs_83 : decode cX8_costs 83 = .ok (.aload_n 0, 1) := by decide +kernel
theorem dX8_costs_84 : decode cX8_costs 84 = .ok (.getfield 156, 3) := by decide +kernel
theorem dX8_costs_87 : decode cX8_costs 87 = .ok (.invokestatic 230, 3) := by decide +kernel
theorem dX8_costs_90 : decode cX8_costs 90 = .ok (.iaload, 1) := by decide +kernel
theorem dX8_costs_91 : decode cX8_costs 91 = .ok (.iadd, 1) := by decide +kernel
theorem dX8_costs_92 : decode cX8_costs 92 = .ok (.ireturn, 1) := by decide +kernel
set_option maxRecDepth 20000 in
theorem ggX8_works_X8_asides : GoodIn wsX8_works wsX8_asides := goodIn_r _ [7, 8, 9, 10, 11, 12, 13, 14, 15, 16, 17, 64, 65, 66, 67, 68, 69, 70, 71, 72, 73, 74, 75, 76, 77, 78, 79, 80, 81, 82, 83, 84, 85, 86, 87, 88, 89, 90, 91, 92, 93, 94, 95, 96] (by decide +kernel) (by decide +kernel)
set_option maxRecDepth 20000 in
theorem gX8_works_X8_asides : GoodIn wsX8_works (wsV RX8 224 RX8 yX8_asides wsX8_asides) := goodIn_app (goodIn_of _ (by decide +kernel)) ggX8_works_X8_asides
set_option maxRecDepth 20000 in
theorem ggX8_works_X8_costs : GoodIn wsX8_works wsX8_costs := goodIn_r _ [21, 14, 2, 8, 10, 12, 22, 23, 24, 6, 25, 26, 27, 28, 29, 30, 31, 32, 33, 1, 34, 35, 36, 37, 38, 39, 40, 41, 16, 42, 43, 44, 45, 46, 47, 48, 49, 50, 51, 52, 53, 54, 55, 56, 57, 58, 59, 64, 65, 66, 67, 68, 69, 70, 71, 72, 73, 74, 75, 76, 77, 78, 79, 80, 81, 82, 83, 84, 85, 86, 87, 88, 89, 90, 91, 92, 93, 94, 95, 96] (by decide +kernel) (by decide +kernel)
set_option maxRecDepth 20000 in
theorem gX8_works_X8_costs : GoodIn wsX8_works (wsV RX8 233 RX8 yX8_costs wsX8_costs) := goodIn_app (goodIn_of _ (by decide +kernel)) ggX8_works_X8_costs
set_option maxRecDepth 20000 in
theorem ggX8_works_X8_backs : GoodIn wsX8_works wsX8_backs := goodIn_r _ [63, 9, 11, 13, 15, 17, 16, 22, 23, 24, 6, 25, 8, 10, 12, 14, 64, 65, 66, 67, 68, 69, 70, 71, 72, 73, 74, 75, 76, 77, 78, 79, 80, 81, 82, 83, 84, 85, 86, 87, 88, 89, 90, 91, 92, 93, 94, 95, 96] (by decide +kernel) (by decide +kernel)
set_option maxRecDepth 20000 in
theorem gX8_works_X8_backs : GoodIn wsX8_works (wsV RX8 227 RX8 yX8_backs wsX8_backs) := goodIn_app (goodIn_of _ (by decide +kernel)) ggX8_works_X8_backs
theorem dX8_works_0 : decode cX8_works 0 = .ok (.aload_n 0, 1) := by decide +kernel
theorem dX8_works_1 : decode cX8_works 1 = .ok (.invokevirtual 224, 3) := by decide +kernel
theorem dX8_works_4 : decode cX8_works 4 = .ok (.bipush 110, 2) := by decide +kernel
theorem dX8_works_6 : decode cX8_works 6 = .ok (.aload_n 0, 1) := by decide +kernel
theorem dX8_works_7 : decode cX8_works 7 = .ok (.getfield 22, 3) := by decide +kernel
theorem dX8_works_10 : decode cX8_works 10 = .ok (.iconst 0, 1) := by decide +kernel
theorem dX8_works_11 : decode cX8_works 11 = .ok (.iaload, 1) := by decide +kernel
theorem dX8_works_12 : decode cX8_works 12 = .ok (.imul, 1) := by decide +kernel
theorem dX8_works_13 : decode cX8_works 13 = .ok (.iconst 1, 1) := by decide +kernel
theorem dX8_works_14 : decode cX8_works 14 = .ok (.isub, 1) := by decide +kernel
theorem dX8_works_15 : decode cX8_works 15 = .ok (.istore_n 2, 1) := by decide +kernel
theorem dX8_works_16 : decode cX8_works 16 = .ok (.iload_n 2, 1) := by decide +kernel
theorem dX8_works_17 : decode cX8_works 17 = .ok (.ifCond .lt 63, 3) := by decide +kernel
theorem dX8_works_20 : decode cX8_works 20 = .ok (.sipush 9999, 3) := by decide +kernel
theorem dX8_works_23 : decode cX8_works 23 = .ok (.istore_n 3, 1) := by decide +kernel
theorem dX8_works_24 : decode cX8_works 24 = .ok (.iconst (-1), 1) := by decide +kernel
theorem dX8_works_25 : decode cX8_works 25 = .ok (.istore 4, 2) := by decide +kernel
theorem dX8_works_27 : decode cX8_works 27 = .ok (.iload 4, 2) := by decide +kernel
theorem dX8_works_29 : decode cX8_works 29 = .ok (.aload_n 0, 1) := by decide +kernel
theorem dX8_works_30 : decode cX8_works 30 = .ok (.getfield 22, 3) := by decide +kernel
theorem dX8_works_33 : decode cX8_works 33 = .ok (.iconst 1, 1) := by decide +kernel
theorem dX8_works_34 : decode cX8_works 34 = .ok (.iaload, 1) := by decide +kernel
theorem dX8_works_35 : decode cX8_works 35 = .ok (.if_icmp .ge 32, 3) := by decide +kernel
theorem dX8_works_38 : decode cX8_works 38 = .ok (.aload_n 0, 1) := by decide +kernel
theorem dX8_works_39 : decode cX8_works 39 = .ok (.iload_n 2, 1) := by decide +kernel
theorem dX8_works_40 : decode cX8_works 40 = .ok (.iload 4, 2) := by decide +kernel
theorem dX8_works_42 : decode cX8_works 42 = .ok (.iload_n 1, 1) := by decide +kernel
theorem dX8_works_43 : decode cX8_works 43 = .ok (.invokevirtual 233, 3) := by decide +kernel
theorem dX8_works_46 : decode cX8_works 46 = .ok (.istore 5, 2) := by decide +kernel
theorem dX8_works_48 : decode cX8_works 48 = .ok (.iload 5, 2) := by decide +kernel
theorem dX8_works_50 : decode cX8_works 50 = .ok (.iload_n 3, 1) := by decide +kernel
theorem dX8_works_51 : decode cX8_works 51 = .ok (.if_icmp .ge 8, 3) := by decide +kernel
theorem dX8_works_54 : decode cX8_works 54 = .ok (.iload 5, 2) := by decide +kernel
theorem dX8_works_56 : decode cX8_works 56 = .ok (.goto 4, 3) := by decide +kernel
theorem dX8_works_59 : decode cX8_works 59 = .ok (.iload_n 3, 1) := by decide +kernel
theorem dX8_works_60 : decode cX8_works 60 = .ok (.istore_n 3, 1) := by decide +kernel
theorem dX8_works_61 : decode cX8_works 61 = .ok (.iinc 4 1, 3) := by decide +kernel
theorem dX8_works_64 : decode cX8_works 64 = .ok (.goto (-37), 3) := by decide +kernel
theorem dX8_works_67 : decode cX8_works 67 = .ok (.aload_n 0, 1) := by decide +kernel
theorem dX8_works_68 : decode cX8_works 68 = .ok (.getfield 34, 3) := by decide +kernel
theorem dX8_works_71 : decode cX8_works 71 = .ok (.iload_n 2, 1) := by decide +kernel
theorem dX8_works_72 : decode cX8_works 72 = .ok (.iload_n 3, 1) := by decide +kernel
theorem dX8_works_73 : decode cX8_works 73 = .ok (.iastore, 1) := by decide +kernel
theorem dX8_works_74 : decode cX8_works 74 = .ok (.iinc 2 (-1), 3) := by decide +kernel
theorem dX8_works_77 : decode cX8_works 77 = .ok (.goto (-61), 3) := by decide +kernel
theorem dX8_works_80 : decode cX8_works 80 = .ok (.aload_n 0, 1) := by decide +kernel
theorem dX8_works_81 : decode cX8_works 81 = .ok (.invokevirtual 227, 3) := by decide +kernel
theorem dX8_works_84 : decode cX8_works 84 = .ok (.return_, 1) := by decide +kernel
set_option maxRecDepth 20000 in
theorem ggX8_way_X8_works : GoodIn wsX8_way wsX8_works := goodIn_r _ [11, 12, 6, 13, 14, 15, 10, 16, 3, 17, 4, 18, 5, 19, 1, 20, 21, 22, 23, 24, 25, 26, 27, 28, 29, 30, 31, 32, 33, 34, 35, 36, 37, 38, 39, 40, 41, 42, 43, 44, 45, 46, 47, 48, 49, 50, 51, 52, 53, 54, 55, 56, 57, 58, 59, 60, 61, 62, 63, 64, 65, 66, 67, 68, 69, 70, 71, 72, 73, 74, 75, 76, 77, 78, 79, 80, 81, 82, 83, 84, 85, 86, 87, 88, 89, 90, 91, 92, 93, 94, 95, 96, 97, 98, 99, 100, 101] (by decide +kernel) (by decide +kernel)
set_option maxRecDepth 20000 in
theorem gX8_way_X8_works : GoodIn wsX8_way (wsV RX8 238 RX8 yX8_works wsX8_works) := goodIn_app (goodIn_of _ (by decide +kernel)) ggX8_way_X8_works
set_option maxRecDepth 20000 in
theorem ggX8_way_X8_place : GoodIn wsX8_way wsX8_place := goodIn_r _ [64] (by decide +kernel) (by decide +kernel)
set_option maxRecDepth 20000 in
theorem gX8_way_X8_place : GoodIn wsX8_way (va_wsS RX8 230 yX8_place wsX8_place) := goodIn_app (goodIn_of _ (by decide +kernel)) ggX8_way_X8_place
set_option maxRecDepth 20000 in
theorem ggX8_way_X8_costs : GoodIn wsX8_way wsX8_costs := goodIn_r _ [26, 1, 6, 3, 4, 5, 27, 28, 29, 10, 30, 31, 32, 33, 34, 35, 36, 37, 38, 12, 39, 40, 41, 42, 43, 44, 45, 46, 21, 47, 48, 49, 50, 51, 52, 53, 54, 55, 56, 57, 58, 59, 60, 61, 62, 63, 64, 69, 70, 71, 72, 73, 74, 75, 76, 77, 78, 79, 80, 81, 82, 83, 84, 85, 86, 87, 88, 89, 90, 91, 92, 93, 94, 95, 96, 97, 98, 99, 100, 101] (by decide +kernel) (by decide +kernel)
set_option maxRecDepth 20000 in
theorem gX8_way_X8_costs : GoodIn wsX8_way (wsV RX8 233 RX8 yX8_costs wsX8_costs) := goodIn_app (goodIn_of _ (by decide +kernel)) ggX8_way_X8_costs
set_option maxRecDepth 20000 in
theorem ggX8_way_X8_backs : GoodIn wsX8_way wsX8_backs := goodIn_r _ [68, 17, 18, 19, 20, 22, 21, 27, 28, 29, 10, 30, 3, 4, 5, 1, 69, 70, 71, 72, 73, 74, 75, 76, 77, 78, 79, 80, 81, 82, 83, 84, 85, 86, 87, 88, 89, 90, 91, 92, 93, 94, 95, 96, 97, 98, 99, 100, 101] (by decide +kernel) (by decide +kernel)
set_option maxRecDepth 20000 in
theorem gX8_way_X8_backs : GoodIn wsX8_way (wsV RX8 227 RX8 yX8_backs wsX8_backs) := goodIn_app (goodIn_of _ (by decide +kernel)) ggX8_way_X8_backs
theorem dX8_way_0 : decode cX8_way 0 = .ok (.aload_n 0, 1) := by decide +kernel
theorem dX8_way_1 : decode cX8_way 1 = .ok (.getfield 159, 3) := by decide +kernel
theorem dX8_way_4 : decode cX8_way 4 = .ok (.ifCond .eq 22, 3) := by decide +kernel
theorem dX8_way_7 : decode cX8_way 7 = .ok (.aload_n 0, 1) := by decide +kernel
theorem dX8_way_8 : decode cX8_way 8 = .ok (.getfield 159, 3) := by decide +kernel
theorem dX8_way_11 : decode cX8_way 11 = .ok (.iconst 2, 1) := by decide +kernel
theorem dX8_way_12 : decode cX8_way 12 = .ok (.if_icmp .ne 11, 3) := by decide +kernel
theorem dX8_way_15 : decode cX8_way 15 = .ok (.iload_n 2, 1) := by decide +kernel
theorem dX8_way_16 : decode cX8_way 16 = .ok (.ifCond .ne 7, 3) := by decide +kernel
theorem dX8_way_19 : decode cX8_way 19 = .ok (.iconst 0, 1) := by decide +kernel
theorem dX8_way_20 : decode cX8_way 20 = .ok (.goto 5, 3) := by decide +kernel
theorem dX8_way_23 : decode cX8_way 23 = .ok (.ldc 237, 2) := by decide +kernel
theorem dX8_way_25 : decode cX8_way 25 = .ok (.ireturn, 1) := by decide +kernel
theorem dX8_way_26 : decode cX8_way 26 = .ok (.aload_n 0, 1) := by decide +kernel
theorem dX8_way_27 : decode cX8_way 27 = .ok (.iload_n 1, 1) := by decide +kernel
theorem dX8_way_28 : decode cX8_way 28 = .ok (.invokevirtual 238, 3) := by decide +kernel
theorem dX8_way_31 : decode cX8_way 31 = .ok (.aload_n 0, 1) := by decide +kernel
theorem dX8_way_32 : decode cX8_way 32 = .ok (.getfield 150, 3) := by decide +kernel
theorem dX8_way_35 : decode cX8_way 35 = .ok (.aload_n 0, 1) := by decide +kernel
theorem dX8_way_36 : decode cX8_way 36 = .ok (.getfield 153, 3) := by decide +kernel
theorem dX8_way_39 : decode cX8_way 39 = .ok (.aload_n 0, 1) := by decide +kernel
theorem dX8_way_40 : decode cX8_way 40 = .ok (.getfield 156, 3) := by decide +kernel
theorem dX8_way_43 : decode cX8_way 43 = .ok (.invokestatic 230, 3) := by decide +kernel
