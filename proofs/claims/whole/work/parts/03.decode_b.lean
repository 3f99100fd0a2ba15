set_option maxRecDepth 20000 in
theorem ggX7_init_X3_init : GoodIn wsX7_init wsX3_init := goodIn_r _ [37, 38, 2, 3, 39, 40, 41, 42, 43, 29, 30, 44, 45, 46, 47, 48, 49, 50, 51, 52, 53, 54, 55, 56, 111, 112, 113, 114, 115, 116, 117, 118, 119, 141, 142, 143, 144] (by decide +kernel) (by decide +kernel)
set_option maxRecDepth 20000 in
theorem gX7_init_X3_init_n21 : GoodIn wsX7_init (wsX3_init) := ggX7_init_X3_init
set_option maxRecDepth 20000 in
theorem ggX7_init_X6_init : GoodIn wsX7_init wsX6_init := goodIn_r _ [58, 59, 2, 3, 39, 60, 61, 62, 63, 120, 121, 122, 123] (by decide +kernel) (by decide +kernel)
set_option maxRecDepth 20000 in
theorem gX7_init_X6_init_n31 : GoodIn wsX7_init (wsX6_init) := ggX7_init_X6_init
set_option maxRecDepth 20000 in
theorem ggX7_init_X0_init : GoodIn wsX7_init wsX0_init := goodIn_r _ [66, 67, 2, 3, 68, 69, 39, 70, 71, 72, 73, 74, 29, 30, 50, 51, 52, 53, 54, 55, 56, 124, 125, 126, 127, 128, 129, 141, 142, 143, 144] (by decide +kernel) (by decide +kernel)
set_option maxRecDepth 20000 in
theorem gX7_init_X0_init : GoodIn wsX7_init (wsX0_init) := ggX7_init_X0_init
set_option maxRecDepth 20000 in
theorem ggX7_init_X4_init : GoodIn wsX7_init wsX4_init := goodIn_r _ [76, 77, 2, 3, 39, 78, 79, 29, 30, 80, 81, 82, 83, 84, 50, 51, 52, 53, 54, 55, 56, 130, 131, 132, 133, 134, 141, 142, 143, 144] (by decide +kernel) (by decide +kernel)
set_option maxRecDepth 20000 in
theorem gX7_init_X4_init_n45 : GoodIn wsX7_init (wsX4_init) := ggX7_init_X4_init
set_option maxRecDepth 20000 in
theorem ggX7_init_X1_init : GoodIn wsX7_init wsX1_init := goodIn_r _ [86, 87, 2, 3, 39, 88, 89, 90, 91, 92, 93, 135, 136, 137, 138, 139, 140] (by decide +kernel) (by decide +kernel)
set_option maxRecDepth 20000 in
theorem gX7_init_X1_init_n52 : GoodIn wsX7_init (wsX1_init) := ggX7_init_X1_init
set_option maxRecDepth 20000 in
theorem ggX7_init_X2_init : GoodIn wsX7_init wsX2_init := goodIn_r _ [51, 52, 2, 3, 53, 54, 55, 56, 141, 142, 143, 144] (by decide +kernel) (by decide +kernel)
set_option maxRecDepth 20000 in
theorem gX7_init_X2_init_n59 : GoodIn wsX7_init (wsX2_init) := ggX7_init_X2_init
set_option maxRecDepth 20000 in
theorem ggX7_init_X5_init : GoodIn wsX7_init wsX5_init := goodIn_r _ [95, 96, 2, 3, 39, 97, 98, 99, 145, 146, 147] (by decide +kernel) (by decide +kernel)
set_option maxRecDepth 20000 in
theorem gX7_init_X5_init_n71 : GoodIn wsX7_init (wsX5_init) := ggX7_init_X5_init
theorem dX7_init_0 : decode cX7_init 0 = .ok (.aload_n 0, 1) := by decide +kernel
theorem dX7_init_1 : decode cX7_init 1 = .ok (.invokespecial 1, 3) := by decide +kernel
theorem dX7_init_4 : decode cX7_init 4 = .ok (.aload_n 0, 1) := by decide +kernel
theorem dX7_init_5 : decode cX7_init 5 = .ok (.bipush 8, 2) := by decide +kernel
theorem dX7_init_7 : decode cX7_init 7 = .ok (.anewarray 9, 3) := by decide +kernel
theorem dX7_init_10 : decode cX7_init 10 = .ok (.putfield 11, 3) := by decide +kernel
theorem dX7_init_13 : decode cX7_init 13 = .ok (.aload_n 0, 1) := by decide +kernel
theorem dX7_init_14 : decode cX7_init 14 = .ok (.iconst 2, 1) := by decide +kernel
theorem dX7_init_15 : decode cX7_init 15 = .ok (.anewarray 15, 3) := by decide +kernel
theorem dX7_init_18 : decode cX7_init 18 = .ok (.putfield 17, 3) := by decide +kernel
theorem dX7_init_21 : decode cX7_init 21 = .ok (.aload_n 0, 1) := by decide +kernel
theorem dX7_init_22 : decode cX7_init 22 = .ok (.new 15, 3) := by decide +kernel
theorem dX7_init_25 : decode cX7_init 25 = .ok (.dup, 1) := by decide +kernel
theorem dX7_init_26 : decode cX7_init 26 = .ok (.invokespecial 21, 3) := by decide +kernel
theorem dX7_init_29 : decode cX7_init 29 = .ok (.putfield 22, 3) := by decide +kernel
theorem dX7_init_32 : decode cX7_init 32 = .ok (.aload_n 0, 1) := by decide +kernel
theorem dX7_init_33 : decode cX7_init 33 = .ok (.new 15, 3) := by decide +kernel
theorem dX7_init_36 : decode cX7_init 36 = .ok (.dup, 1) := by decide +kernel
theorem dX7_init_37 : decode cX7_init 37 = .ok (.invokespecial 21, 3) := by decide +kernel
theorem dX7_init_40 : decode cX7_init 40 = .ok (.putfield 26, 3) := by decide +kernel
theorem dX7_init_43 : decode cX7_init 43 = .ok (.aload_n 0, 1) := by decide +kernel
theorem dX7_init_44 : decode cX7_init 44 = .ok (.new 29, 3) := by decide +kernel
theorem dX7_init_47 : decode cX7_init 47 = .ok (.dup, 1) := by decide +kernel
theorem dX7_init_48 : decode cX7_init 48 = .ok (.invokespecial 31, 3) := by decide +kernel
theorem dX7_init_51 : decode cX7_init 51 = .ok (.putfield 32, 3) := by decide +kernel
theorem dX7_init_54 : decode cX7_init 54 = .ok (.aload_n 0, 1) := by decide +kernel
theorem dX7_init_55 : decode cX7_init 55 = .ok (.new 36, 3) := by decide +kernel
theorem dX7_init_58 : decode cX7_init 58 = .ok (.dup, 1) := by decide +kernel
theorem dX7_init_59 : decode cX7_init 59 = .ok (.invokespecial 38, 3) := by decide +kernel
theorem dX7_init_62 : decode cX7_init 62 = .ok (.putfield 39, 3) := by decide +kernel
theorem dX7_init_65 : decode cX7_init 65 = .ok (.aload_n 0, 1) := by decide +kernel
theorem dX7_init_66 : decode cX7_init 66 = .ok (.new 43, 3) := by decide +kernel
theorem dX7_init_69 : decode cX7_init 69 = .ok (.dup, 1) := by decide +kernel
theorem dX7_init_70 : decode cX7_init 70 = .ok (.invokespecial 45, 3) := by decide +kernel
theorem dX7_init_73 : decode cX7_init 73 = .ok (.putfield 46, 3) := by decide +kernel
theorem dX7_init_76 : decode cX7_init 76 = .ok (.aload_n 0, 1) := by decide +kernel
theorem dX7_init_77 : decode cX7_init 77 = .ok (.new 50, 3) := by decide +kernel
theorem dX7_init_80 : decode cX7_init 80 = .ok (.dup, 1) := by decide +kernel
theorem dX7_init_81 : decode cX7_init 81 = .ok (.invokespecial 52, 3) := by decide +kernel
theorem dX7_init_84 : decode cX7_init 84 = .ok (.putfield 53, 3) := by decide +kernel
theorem dX7_init_87 : decode cX7_init 87 = .ok (.aload_n 0, 1) := by decide +kernel
theorem dX7_init_88 : decode cX7_init 88 = .ok (.new 57, 3) := by decide +kernel
theorem dX7_init_91 : decode cX7_init 91 = .ok (.dup, 1) := by decide +kernel
theorem dX7_init_92 : decode cX7_init 92 = .ok (.invokespecial 59, 3) := by decide +kernel
theorem dX7_init_95 : decode cX7_init 95 = .ok (.putfield 60, 3) := by decide +kernel
theorem dX7_init_98 : decode cX7_init 98 = .ok (.aload_n 0, 1) := by decide +kernel
theorem dX7_init_99 : decode cX7_init 99 = .ok (.iconst 0, 1) := by decide +kernel
theorem dX7_init_100 : decode cX7_init 100 = .ok (.putfield 64, 3) := by decide +kernel
theorem dX7_init_103 : decode cX7_init 103 = .ok (.aload_n 0, 1) := by decide +kernel
theorem dX7_init_104 : decode cX7_init 104 = .ok (.iconst 0, 1) := by decide +kernel
theorem dX7_init_105 : decode cX7_init 105 = .ok (.putfield 68, 3) := by decide +kernel
theorem dX7_init_108 : decode cX7_init 108 = .ok (.iconst 0, 1) := by decide +kernel
theorem dX7_init_109 : decode cX7_init 109 = .ok (.istore_n 1, 1) := by decide +kernel
theorem dX7_init_110 : decode cX7_init 110 = .ok (.iload_n 1, 1) := by decide +kernel
theorem dX7_init_111 : decode cX7_init 111 = .ok (.bipush 8, 2) := by decide +kernel
theorem dX7_init_113 : decode cX7_init 113 = .ok (.if_icmp .ge 22, 3) := by decide +kernel
theorem dX7_init_116 : decode cX7_init 116 = .ok (.aload_n 0, 1) := by decide +kernel
theorem dX7_init_117 : decode cX7_init 117 = .ok (.getfield 11, 3) := by decide +kernel
theorem dX7_init_120 : decode cX7_init 120 = .ok (.iload_n 1, 1) := by decide +kernel
theorem dX7_init_121 : decode cX7_init 121 = .ok (.new 9, 3) := by decide +kernel
theorem dX7_init_124 : decode cX7_init 124 = .ok (.dup, 1) := by decide +kernel
theorem dX7_init_125 : decode cX7_init 125 = .ok (.invokespecial 71, 3) := by decide +kernel
theorem dX7_init_128 : decode cX7_init 128 = .ok (.aastore, 1) := by decide +kernel
theorem dX7_init_129 : decode cX7_init 129 = .ok (.iinc 1 1, 3) := by decide +kernel
theorem dX7_init_132 : decode cX7_init 132 = .ok (.goto (-22), 3) := by decide +kernel
theorem dX7_init_135 : decode cX7_init 135 = .ok (.iconst 0, 1) := by decide +kernel
theorem dX7_init_136 : decode cX7_init 136 = .ok (.istore_n 1, 1) := by decide +kernel
theorem dX7_init_137 : decode cX7_init 137 = .ok (.iload_n 1, 1) := by decide +kernel
theorem dX7_init_138 : decode cX7_init 138 = .ok (.iconst 2, 1) := by decide +kernel
theorem dX7_init_139 : decode cX7_init 139 = .ok (.if_icmp .ge 22, 3) := by decide +kernel
theorem dX7_init_142 : decode cX7_init 142 = .ok (.aload_n 0, 1) := by decide +kernel
theorem dX7_init_143 : decode cX7_init 143 = .ok (.getfield 17, 3) := by decide +kernel
theorem dX7_init_146 : decode cX7_init 146 = .ok (.iload_n 1, 1) := by decide +kernel
theorem dX7_init_147 : decode cX7_init 147 = .ok (.new 15, 3) := by decide +kernel
theorem dX7_init_150 : decode cX7_init 150 = .ok (.dup, 1) := by decide +kernel
theorem dX7_init_151 : decode cX7_init 151 = .ok (.invokespecial 21, 3) := by decide +kernel
theorem dX7_init_154 : decode cX7_init 154 = .ok (.aastore, 1) := by decide +kernel
theorem dX7_init_155 : decode cX7_init 155 = .ok (.iinc 1 1, 3) := by decide +kernel
theorem dX7_init_158 : decode cX7_init 158 = .ok (.goto (-21), 3) := by decide +kernel
theorem dX7_init_161 : decode cX7_init 161 = .ok (.return_, 1) := by decide +kernel
set_option maxRecDepth 20000 in
theorem ggX7_row_X7_isOut : GoodIn wsX7_row wsX7_isOut := goodIn_r _ [7] (by decide +kernel) (by decide +kernel)
set_option maxRecDepth 20000 in
theorem gX7_row_X7_isOut : GoodIn wsX7_row (va_wsS RX7 72 yX7_isOut wsX7_isOut) := goodIn_app (goodIn_of _ (by decide +kernel)) ggX7_row_X7_isOut
set_option maxRecDepth 20000 in
theorem ggX7_row_X7_found : GoodIn wsX7_row wsX7_found := goodIn_r _ [11, 3, 12, 25, 26, 27, 28, 29, 30, 31, 32, 33, 34, 35] (by decide +kernel) (by decide +kernel)
set_option maxRecDepth 20000 in
theorem gX7_row_X7_found : GoodIn wsX7_row (wsV RX7 77 RX7 yX7_found wsX7_found) := goodIn_app (goodIn_of _ (by decide +kernel)) ggX7_row_X7_found
set_option maxRecDepth 20000 in
theorem ggX7_row_X5_become : GoodIn wsX7_row wsX5_become := goodIn_r _ [17, 18, 19, 20, 21, 22, 23, 24, 36, 37, 38] (by decide +kernel) (by decide +kernel)
set_option maxRecDepth 20000 in
theorem gX7_row_X5_become : GoodIn wsX7_row (wsV RX7 81 RX5 yX5_become wsX5_become) := goodIn_app (goodIn_of _ (by decide +kernel)) ggX7_row_X5_become
theorem dX7_row_0 : decode cX7_row 0 = .ok (.iload_n 1, 1) := by decide +kernel
theorem dX7_row_1 : decode cX7_row 1 = .ok (.iconst 0, 1) := by decide +kernel
theorem dX7_row_2 : decode cX7_row 2 = .ok (.bipush 7, 2) := by decide +kernel
theorem dX7_row_4 : decode cX7_row 4 = .ok (.invokestatic 72, 3) := by decide +kernel
theorem dX7_row_7 : decode cX7_row 7 = .ok (.ifCond .ne 18, 3) := by decide +kernel
theorem dX7_row_10 : decode cX7_row 10 = .ok (.iload_n 2, 1) := by decide +kernel
theorem dX7_row_11 : decode cX7_row 11 = .ok (.iconst 0, 1) := by decide +kernel
theorem dX7_row_12 : decode cX7_row 12 = .ok (.iconst 2, 1) := by decide +kernel
theorem dX7_row_13 : decode cX7_row 13 = .ok (.invokestatic 72, 3) := by decide +kernel
theorem dX7_row_16 : decode cX7_row 16 = .ok (.ifCond .ne 9, 3) := by decide +kernel
theorem dX7_row_19 : decode cX7_row 19 = .ok (.iload_n 3, 1) := by decide +kernel
theorem dX7_row_20 : decode cX7_row 20 = .ok (.bipush 40, 2) := by decide +kernel
theorem dX7_row_22 : decode cX7_row 22 = .ok (.if_icmp .le 6, 3) := by decide +kernel
theorem dX7_row_25 : decode cX7_row 25 = .ok (.ldc 76, 2) := by decide +kernel
theorem dX7_row_27 : decode cX7_row 27 = .ok (.ireturn, 1) := by decide +kernel
theorem dX7_row_28 : decode cX7_row 28 = .ok (.iload_n 3, 1) := by decide +kernel
theorem dX7_row_29 : decode cX7_row 29 = .ok (.ifCond .ge 9, 3) := by decide +kernel
theorem dX7_row_32 : decode cX7_row 32 = .ok (.aload_n 0, 1) := by decide +kernel
theorem dX7_row_33 : decode cX7_row 33 = .ok (.iconst 4, 1) := by decide +kernel
theorem dX7_row_34 : decode cX7_row 34 = .ok (.invokevirtual 77, 3) := by decide +kernel
theorem dX7_row_37 : decode cX7_row 37 = .ok (.ireturn, 1) := by decide +kernel
theorem dX7_row_38 : decode cX7_row 38 = .ok (.aload_n 0, 1) := by decide +kernel
theorem dX7_row_39 : decode cX7_row 39 = .ok (.getfield 11, 3) := by decide +kernel
theorem dX7_row_42 : decode cX7_row 42 = .ok (.iload_n 1, 1) := by decide +kernel
theorem dX7_row_43 : decode cX7_row 43 = .ok (.aaload, 1) := by decide +kernel
theorem dX7_row_44 : decode cX7_row 44 = .ok (.iload_n 2, 1) := by decide +kernel
theorem dX7_row_45 : decode cX7_row 45 = .ok (.iload_n 3, 1) := by decide +kernel
theorem dX7_row_46 : decode cX7_row 46 = .ok (.invokevirtual 81, 3) := by decide +kernel
theorem dX7_row_49 : decode cX7_row 49 = .ok (.aload_n 0, 1) := by decide +kernel
theorem dX7_row_50 : decode cX7_row 50 = .ok (.iconst 0, 1) := by decide +kernel
theorem dX7_row_51 : decode cX7_row 51 = .ok (.putfield 68, 3) := by decide +kernel
theorem dX7_row_54 : decode cX7_row 54 = .ok (.iload_n 3, 1) := by decide +kernel
theorem dX7_row_55 : decode cX7_row 55 = .ok (.ireturn, 1) := by decide +kernel
set_option maxRecDepth 20000 in
theorem ggX7_set_X7_isOut : GoodIn wsX7_set wsX7_isOut := goodIn_r _ [7] (by decide +kernel) (by decide +kernel)
set_option maxRecDepth 20000 in
theorem gX7_set_X7_isOut : GoodIn wsX7_set (va_wsS RX7 72 yX7_isOut wsX7_isOut) := goodIn_app (goodIn_of _ (by decide +kernel)) ggX7_set_X7_isOut
set_option maxRecDepth 20000 in
theorem ggX7_set_X5_findingAt : GoodIn wsX7_set wsX5_findingAt := goodIn_r _ [12, 13, 14, 15, 16, 11, 17, 18, 40, 41, 42] (by decide +kernel) (by decide +kernel)
set_option maxRecDepth 20000 in
theorem gX7_set_X5_findingAt : GoodIn wsX7_set (wsV RX7 85 RX5 yX5_findingAt wsX5_findingAt) := goodIn_app (goodIn_of _ (by decide +kernel)) ggX7_set_X5_findingAt
set_option maxRecDepth 20000 in
theorem ggX7_set_X7_found : GoodIn wsX7_set wsX7_found := goodIn_r _ [22, 3, 23, 29, 30, 31, 32, 33, 34, 35, 36, 37, 38, 39] (by decide +kernel) (by decide +kernel)
set_option maxRecDepth 20000 in
theorem gX7_set_X7_found : GoodIn wsX7_set (wsV RX7 77 RX7 yX7_found wsX7_found) := goodIn_app (goodIn_of _ (by decide +kernel)) ggX7_set_X7_found
set_option maxRecDepth 20000 in
theorem ggX7_set_X5_put : GoodIn wsX7_set wsX5_put := goodIn_r _ [27, 28, 18, 40, 41, 42] (by decide +kernel) (by decide +kernel)
set_option maxRecDepth 20000 in
theorem gX7_set_X5_put : GoodIn wsX7_set (wsV RX7 89 RX5 yX5_put wsX5_put) := goodIn_app (goodIn_of _ (by decide +kernel)) ggX7_set_X5_put
theorem dX7_set_0 : decode cX7_set 0 = .ok (.iload_n 1, 1) := by decide +kernel
theorem dX7_set_1 : decode cX7_set 1 = .ok (.iconst 0, 1) := by decide +kernel
theorem dX7_set_2 : decode cX7_set 2 = .ok (.bipush 7, 2) := by decide +kernel
theorem dX7_set_4 : decode cX7_set 4 = .ok (.invokestatic 72, 3) := by decide +kernel
theorem dX7_set_7 : decode cX7_set 7 = .ok (.ifCond .eq 6, 3) := by decide +kernel
theorem dX7_set_10 : decode cX7_set 10 = .ok (.ldc 76, 2) := by decide +kernel
theorem dX7_set_12 : decode cX7_set 12 = .ok (.ireturn, 1) := by decide +kernel
theorem dX7_set_13 : decode cX7_set 13 = .ok (.aload_n 0, 1) := by decide +kernel
theorem dX7_set_14 : decode cX7_set 14 = .ok (.getfield 11, 3) := by decide +kernel
theorem dX7_set_17 : decode cX7_set 17 = .ok (.iload_n 1, 1) := by decide +kernel
theorem dX7_set_18 : decode cX7_set 18 = .ok (.aaload, 1) := by decide +kernel
theorem dX7_set_19 : decode cX7_set 19 = .ok (.iload_n 2, 1) := by decide +kernel
theorem dX7_set_20 : decode cX7_set 20 = .ok (.iconst 1, 1) := by decide +kernel
theorem dX7_set_21 : decode cX7_set 21 = .ok (.invokevirtual 85, 3) := by decide +kernel
theorem dX7_set_24 : decode cX7_set 24 = .ok (.istore 4, 2) := by decide +kernel
theorem dX7_set_26 : decode cX7_set 26 = .ok (.iload 4, 2) := by decide +kernel
theorem dX7_set_28 : decode cX7_set 28 = .ok (.ifCond .eq 10, 3) := by decide +kernel
theorem dX7_set_31 : decode cX7_set 31 = .ok (.aload_n 0, 1) := by decide +kernel
theorem dX7_set_32 : decode cX7_set 32 = .ok (.iload 4, 2) := by decide +kernel
theorem dX7_set_34 : decode cX7_set 34 = .ok (.invokevirtual 77, 3) := by decide +kernel
theorem dX7_set_37 : decode cX7_set 37 = .ok (.ireturn, 1) := by decide +kernel
theorem dX7_set_38 : decode cX7_set 38 = .ok (.aload_n 0, 1) := by decide +kernel
theorem dX7_set_39 : decode cX7_set 39 = .ok (.iconst 0, 1) := by decide +kernel
theorem dX7_set_40 : decode cX7_set 40 = .ok (.putfield 68, 3) := by decide +kernel
theorem dX7_set_43 : decode cX7_set 43 = .ok (.aload_n 0, 1) := by decide +kernel
theorem dX7_set_44 : decode cX7_set 44 = .ok (.getfield 11, 3) := by decide +kernel
theorem dX7_set_47 : decode cX7_set 47 = .ok (.iload_n 1, 1) := by decide +kernel
theorem dX7_set_48 : decode cX7_set 48 = .ok (.aaload, 1) := by decide +kernel
theorem dX7_set_49 : decode cX7_set 49 = .ok (.iload_n 2, 1) := by decide +kernel
theorem dX7_set_50 : decode cX7_set 50 = .ok (.iload_n 3, 1) := by decide +kernel
theorem dX7_set_51 : decode cX7_set 51 = .ok (.invokevirtual 89, 3) := by decide +kernel
theorem dX7_set_54 : decode cX7_set 54 = .ok (.ireturn, 1) := by decide +kernel
set_option maxRecDepth 20000 in
theorem ggX7_copy_X7_isOut : GoodIn wsX7_copy wsX7_isOut := goodIn_r _ [13] (by decide +kernel) (by decide +kernel)
set_option maxRecDepth 20000 in
theorem gX7_copy_X7_isOut : GoodIn wsX7_copy (va_wsS RX7 72 yX7_isOut wsX7_isOut) := goodIn_app (goodIn_of _ (by decide +kernel)) ggX7_copy_X7_isOut
set_option maxRecDepth 20000 in
theorem ggX7_copy_X5_isMissing : GoodIn wsX7_copy wsX5_isMissing := goodIn_r _ [18, 19, 42, 43, 44] (by decide +kernel) (by decide +kernel)
set_option maxRecDepth 20000 in
theorem gX7_copy_X5_isMissing : GoodIn wsX7_copy (wsV RX7 92 RX5 yX5_isMissing wsX5_isMissing) := goodIn_app (goodIn_of _ (by decide +kernel)) ggX7_copy_X5_isMissing
set_option maxRecDepth 20000 in
theorem ggX7_copy_X7_found : GoodIn wsX7_copy wsX7_found := goodIn_r _ [23, 9, 24, 31, 32, 33, 34, 35, 36, 37, 38, 39, 40, 41] (by decide +kernel) (by decide +kernel)
set_option maxRecDepth 20000 in
theorem gX7_copy_X7_found : GoodIn wsX7_copy (wsV RX7 77 RX7 yX7_found wsX7_found) := goodIn_app (goodIn_of _ (by decide +kernel)) ggX7_copy_X7_found
set_option maxRecDepth 20000 in
theorem ggX7_copy_X5_findingAt : GoodIn wsX7_copy wsX5_findingAt := goodIn_r _ [28, 29, 30, 15, 16, 17, 18, 19, 42, 43, 44] (by decide +kernel) (by decide +kernel)
set_option maxRecDepth 20000 in
theorem gX7_copy_X5_findingAt : GoodIn wsX7_copy (wsV RX7 85 RX5 yX5_findingAt wsX5_findingAt) := goodIn_app (goodIn_of _ (by decide +kernel)) ggX7_copy_X5_findingAt
theorem dX7_copy_0 : decode cX7_copy 0 = .ok (.iload_n 1, 1) := by decide +kernel
theorem dX7_copy_1 : decode cX7_copy 1 = .ok (.iconst 0, 1) := by decide +kernel
theorem dX7_copy_2 : decode cX7_copy 2 = .ok (.bipush 7, 2) := by decide +kernel
theorem dX7_copy_4 : decode cX7_copy 4 = .ok (.invokestatic 72, 3) := by decide +kernel
theorem dX7_copy_7 : decode cX7_copy 7 = .ok (.ifCond .ne 13, 3) := by decide +kernel
theorem dX7_copy_10 : decode cX7_copy 10 = .ok (.iload_n 3, 1) := by decide +kernel
theorem dX7_copy_11 : decode cX7_copy 11 = .ok (.iconst 0, 1) := by decide +kernel
theorem dX7_copy_12 : decode cX7_copy 12 = .ok (.bipush 7, 2) := by decide +kernel
theorem dX7_copy_14 : decode cX7_copy 14 = .ok (.invokestatic 72, 3) := by decide +kernel
theorem dX7_copy_17 : decode cX7_copy 17 = .ok (.ifCond .eq 6, 3) := by decide +kernel
theorem dX7_copy_20 : decode cX7_copy 20 = .ok (.ldc 76, 2) := by decide +kernel
theorem dX7_copy_22 : decode cX7_copy 22 = .ok (.ireturn, 1) := by decide +kernel
theorem dX7_copy_23 : decode cX7_copy 23 = .ok (.aload_n 0, 1) := by decide +kernel
theorem dX7_copy_24 : decode cX7_copy 24 = .ok (.getfield 11, 3) := by decide +kernel
theorem dX7_copy_27 : decode cX7_copy 27 = .ok (.iload_n 1, 1) := by decide +kernel
theorem dX7_copy_28 : decode cX7_copy 28 = .ok (.aaload, 1) := by decide +kernel
theorem dX7_copy_29 : decode cX7_copy 29 = .ok (.astore 6, 2) := by decide +kernel
theorem dX7_copy_31 : decode cX7_copy 31 = .ok (.aload_n 0, 1) := by decide +kernel
theorem dX7_copy_32 : decode cX7_copy 32 = .ok (.getfield 11, 3) := by decide +kernel
theorem dX7_copy_35 : decode cX7_copy 35 = .ok (.iload_n 3, 1) := by decide +kernel
theorem dX7_copy_36 : decode cX7_copy 36 = .ok (.aaload, 1) := by decide +kernel
theorem dX7_copy_37 : decode cX7_copy 37 = .ok (.astore 7, 2) := by decide +kernel
theorem dX7_copy_39 : decode cX7_copy 39 = .ok (.aload 6, 2) := by decide +kernel
theorem dX7_copy_41 : decode cX7_copy 41 = .ok (.invokevirtual 92, 3) := by decide +kernel
theorem dX7_copy_44 : decode cX7_copy 44 = .ok (.ifCond .ne 11, 3) := by decide +kernel
theorem dX7_copy_47 : decode cX7_copy 47 = .ok (.aload 7, 2) := by decide +kernel
theorem dX7_copy_49 : decode cX7_copy 49 = .ok (.invokevirtual 92, 3) := by decide +kernel
theorem dX7_copy_52 : decode cX7_copy 52 = .ok (.ifCond .eq 9, 3) := by decide +kernel
theorem dX7_copy_55 : decode cX7_copy 55 = .ok (.aload_n 0, 1) := by decide +kernel
theorem dX7_copy_56 : decode cX7_copy 56 = .ok (.iconst 1, 1) := by decide +kernel
theorem dX7_copy_57 : decode cX7_copy 57 = .ok (.invokevirtual 77, 3) := by decide +kernel
theorem dX7_copy_60 : decode cX7_copy 60 = .ok (.ireturn, 1) := by decide +kernel
theorem dX7_copy_61 : decode cX7_copy 61 = .ok (.aload 6, 2) := by decide +kernel
theorem dX7_copy_63 : decode cX7_copy 63 = .ok (.getfield 96, 3) := by decide +kernel
theorem dX7_copy_66 : decode cX7_copy 66 = .ok (.aload 7, 2) := by decide +kernel
theorem dX7_copy_68 : decode cX7_copy 68 = .ok (.getfield 96, 3) := by decide +kernel
theorem dX7_copy_71 : decode cX7_copy 71 = .ok (.if_icmp .eq 9, 3) := by decide +kernel
theorem dX7_copy_74 : decode cX7_copy 74 = .ok (.aload_n 0, 1) := by decide +kernel
theorem dX7_copy_75 : decode cX7_copy 75 = .ok (.iconst 5, 1) := by decide +kernel
theorem dX7_copy_76 : decode cX7_copy 76 = .ok (.invokevirtual 77, 3) := by decide +kernel
theorem dX7_copy_79 : decode cX7_copy 79 = .ok (.ireturn, 1) := by decide +kernel
theorem dX7_copy_80 : decode cX7_copy 80 = .ok (.aload 6, 2) := by decide +kernel
theorem dX7_copy_82 : decode cX7_copy 82 = .ok (.iload_n 2, 1) := by decide +kernel
theorem dX7_copy_83 : decode cX7_copy 83 = .ok (.iload 5, 2) := by decide +kernel
theorem dX7_copy_85 : decode cX7_copy 85 = .ok (.invokevirtual 85, 3) := by decide +kernel
theorem dX7_copy_88 : decode cX7_copy 88 = .ok (.ifCond .ne 15, 3) := by decide +kernel
theorem dX7_copy_91 : decode cX7_copy 91 = .ok (.aload 7, 2) := by decide +kernel
theorem dX7_copy_93 : decode cX7_copy 93 = .ok (.iload 4, 2) := by decide +kernel
theorem dX7_copy_95 : decode cX7_copy 95 = .ok (.iload 5, 2) := by decide +kernel
theorem dX7_copy_97 : decode cX7_copy 97 = .ok (.invokevirtual 85, 3) := by decide +kernel
theorem dX7_copy_100 : decode cX7_copy 100 = .ok (.ifCond .eq 9, 3) := by decide +kernel
theorem dX7_copy_103 : decode cX7_copy 103 = .ok (.aload_n 0, 1) := by decide +kernel
theorem dX7_copy_104 : decode cX7_copy 104 = .ok (.iconst 2, 1) := by decide +kernel
theorem dX7_copy_105 : decode cX7_copy 105 = .ok (.invokevirtual 77, 3) := by decide +kernel
theorem dX7_copy_108 : decode cX7_copy 108 = .ok (.ireturn, 1) := by decide +kernel
theorem dX7_copy_109 : decode cX7_copy 109 = .ok (.aload 6, 2) := by decide +kernel
theorem dX7_copy_111 : decode cX7_copy 111 = .ok (.getfield 99, 3) := by decide +kernel
theorem dX7_copy_114 : decode cX7_copy 114 = .ok (.iload_n 2, 1) := by decide +kernel
theorem dX7_copy_115 : decode cX7_copy 115 = .ok (.aload 7, 2) := by decide +kernel
theorem dX7_copy_117 : decode cX7_copy 117 = .ok (.getfield 99, 3) := by decide +kernel
theorem dX7_copy_120 : decode cX7_copy 120 = .ok (.iload 4, 2) := by decide +kernel
theorem dX7_copy_122 : decode cX7_copy 122 = .ok (.iload 5, 2) := by decide +kernel
theorem dX7_copy_124 : decode cX7_copy 124 = .ok (.invokestatic 103, 3) := by decide +kernel
theorem dX7_copy_127 : decode cX7_copy 127 = .ok (.aload_n 0, 1) := by decide +kernel
theorem dX7_copy_128 : decode cX7_copy 128 = .ok (.iconst 0, 1) := by decide +kernel
theorem dX7_copy_129 : decode cX7_copy 129 = .ok (.putfield 68, 3) := by decide +kernel
theorem dX7_copy_132 : decode cX7_copy 132 = .ok (.iload 5, 2) := by decide +kernel
theorem dX7_copy_134 : decode cX7_copy 134 = .ok (.ireturn, 1) := by decide +kernel
set_option maxRecDepth 20000 in
theorem ggX7_drop_X7_isOut : GoodIn wsX7_drop wsX7_isOut := goodIn_r _ [8] (by decide +kernel) (by decide +kernel)
set_option maxRecDepth 20000 in
theorem gX7_drop_X7_isOut : GoodIn wsX7_drop (va_wsS RX7 72 yX7_isOut wsX7_isOut) := goodIn_app (goodIn_of _ (by decide +kernel)) ggX7_drop_X7_isOut
set_option maxRecDepth 20000 in
theorem ggX7_drop_X5_isMissing : GoodIn wsX7_drop wsX5_isMissing := goodIn_r _ [13, 14, 41, 42, 43] (by decide +kernel) (by decide +kernel)
set_option maxRecDepth 20000 in
theorem gX7_drop_X5_isMissing : GoodIn wsX7_drop (wsV RX7 92 RX5 yX5_isMissing wsX5_isMissing) := goodIn_app (goodIn_of _ (by decide +kernel)) ggX7_drop_X5_isMissing
set_option maxRecDepth 20000 in
theorem ggX7_drop_X7_found : GoodIn wsX7_drop wsX7_found := goodIn_r _ [18, 4, 19, 30, 31, 32, 33, 34, 35, 36, 37, 38, 39, 40] (by decide +kernel) (by decide +kernel)
set_option maxRecDepth 20000 in
theorem gX7_drop_X7_found : GoodIn wsX7_drop (wsV RX7 77 RX7 yX7_found wsX7_found) := goodIn_app (goodIn_of _ (by decide +kernel)) ggX7_drop_X7_found
set_option maxRecDepth 20000 in
theorem ggX7_drop_X5_become : GoodIn wsX7_drop wsX5_become := goodIn_r _ [23, 14, 24, 25, 26, 27, 28, 29, 41, 42, 43] (by decide +kernel) (by decide +kernel)
set_option maxRecDepth 20000 in
theorem gX7_drop_X5_become : GoodIn wsX7_drop (wsV RX7 81 RX5 yX5_become wsX5_become) := goodIn_app (goodIn_of _ (by decide +kernel)) ggX7_drop_X5_become
theorem dX7_drop_0 : decode cX7_drop 0 = .ok (.iload_n 1, 1) := by decide +kernel
theorem dX7_drop_1 : decode cX7_drop 1 = .ok (.iconst 0, 1) := by decide +kernel
theorem dX7_drop_2 : decode cX7_drop 2 = .ok (.bipush 7, 2) := by decide +kernel
theorem dX7_drop_4 : decode cX7_drop 4 = .ok (.invokestatic 72, 3) := by decide +kernel
theorem dX7_drop_7 : decode cX7_drop 7 = .ok (.ifCond .eq 6, 3) := by decide +kernel
theorem dX7_drop_10 : decode cX7_drop 10 = .ok (.ldc 76, 2) := by decide +kernel
theorem dX7_drop_12 : decode cX7_drop 12 = .ok (.ireturn, 1) := by decide +kernel
theorem dX7_drop_13 : decode cX7_drop 13 = .ok (.aload_n 0, 1) := by decide +kernel
theorem dX7_drop_14 : decode cX7_drop 14 = .ok (.getfield 11, 3) := by decide +kernel
theorem dX7_drop_17 : decode cX7_drop 17 = .ok (.iload_n 1, 1) := by decide +kernel
theorem dX7_drop_18 : decode cX7_drop 18 = .ok (.aaload, 1) := by decide +kernel
theorem dX7_drop_19 : decode cX7_drop 19 = .ok (.invokevirtual 92, 3) := by decide +kernel
theorem dX7_drop_22 : decode cX7_drop 22 = .ok (.ifCond .eq 9, 3) := by decide +kernel
theorem dX7_drop_25 : decode cX7_drop 25 = .ok (.aload_n 0, 1) := by decide +kernel
theorem dX7_drop_26 : decode cX7_drop 26 = .ok (.iconst 1, 1) := by decide +kernel
theorem dX7_drop_27 : decode cX7_drop 27 = .ok (.invokevirtual 77, 3) := by decide +kernel
theorem dX7_drop_30 : decode cX7_drop 30 = .ok (.ireturn, 1) := by decide +kernel
theorem dX7_drop_31 : decode cX7_drop 31 = .ok (.aload_n 0, 1) := by decide +kernel
theorem dX7_drop_32 : decode cX7_drop 32 = .ok (.getfield 11, 3) := by decide +kernel
theorem dX7_drop_35 : decode cX7_drop 35 = .ok (.iload_n 1, 1) := by decide +kernel
theorem dX7_drop_36 : decode cX7_drop 36 = .ok (.aaload, 1) := by decide +kernel
theorem dX7_drop_37 : decode cX7_drop 37 = .ok (.getfield 109, 3) := by decide +kernel
theorem dX7_drop_40 : decode cX7_drop 40 = .ok (.istore_n 2, 1) := by decide +kernel
theorem dX7_drop_41 : decode cX7_drop 41 = .ok (.aload_n 0, 1) := by decide +kernel
theorem dX7_drop_42 : decode cX7_drop 42 = .ok (.getfield 11, 3) := by decide +kernel
theorem dX7_drop_45 : decode cX7_drop 45 = .ok (.iload_n 1, 1) := by decide +kernel
theorem dX7_drop_46 : decode cX7_drop 46 = .ok (.aaload, 1) := by decide +kernel
theorem dX7_drop_47 : decode cX7_drop 47 = .ok (.iconst (-1), 1) := by decide +kernel
theorem dX7_drop_48 : decode cX7_drop 48 = .ok (.iconst 0, 1) := by decide +kernel
theorem dX7_drop_49 : decode cX7_drop 49 = .ok (.invokevirtual 81, 3) := by decide +kernel
theorem dX7_drop_52 : decode cX7_drop 52 = .ok (.aload_n 0, 1) := by decide +kernel
theorem dX7_drop_53 : decode cX7_drop 53 = .ok (.iconst 0, 1) := by decide +kernel
theorem dX7_drop_54 : decode cX7_drop 54 = .ok (.putfield 68, 3) := by decide +kernel
theorem dX7_drop_57 : decode cX7_drop 57 = .ok (.iload_n 2, 1) := by decide +kernel
theorem dX7_drop_58 : decode cX7_drop 58 = .ok (.ireturn, 1) := by decide +kernel
set_option maxRecDepth 20000 in
theorem ggX7_feed_X7_isOut : GoodIn wsX7_feed wsX7_isOut := goodIn_r _ [8] (by decide +kernel) (by decide +kernel)
set_option maxRecDepth 20000 in
theorem gX7_feed_X7_isOut : GoodIn wsX7_feed (va_wsS RX7 72 yX7_isOut wsX7_isOut) := goodIn_app (goodIn_of _ (by decide +kernel)) ggX7_feed_X7_isOut
set_option maxRecDepth 20000 in
theorem ggX7_feed_X6_add : GoodIn wsX7_feed wsX6_add := goodIn_r _ [13, 14, 15, 27, 28, 29, 30] (by decide +kernel) (by decide +kernel)
set_option maxRecDepth 20000 in
theorem gX7_feed_X6_add : GoodIn wsX7_feed (wsV RX7 112 RX6 yX6_add wsX6_add) := goodIn_app (goodIn_of _ (by decide +kernel)) ggX7_feed_X6_add
theorem dX7_feed_0 : decode cX7_feed 0 = .ok (.iload_n 1, 1) := by decide +kernel
theorem dX7_feed_1 : decode cX7_feed 1 = .ok (.iconst 0, 1) := by decide +kernel
theorem dX7_feed_2 : decode cX7_feed 2 = .ok (.sipush 255, 3) := by decide +kernel
theorem dX7_feed_5 : decode cX7_feed 5 = .ok (.invokestatic 72, 3) := by decide +kernel
theorem dX7_feed_8 : decode cX7_feed 8 = .ok (.ifCond .eq 6, 3) := by decide +kernel
theorem dX7_feed_11 : decode cX7_feed 11 = .ok (.ldc 76, 2) := by decide +kernel
theorem dX7_feed_13 : decode cX7_feed 13 = .ok (.ireturn, 1) := by decide +kernel
theorem dX7_feed_14 : decode cX7_feed 14 = .ok (.aload_n 0, 1) := by decide +kernel
theorem dX7_feed_15 : decode cX7_feed 15 = .ok (.getfield 32, 3) := by decide +kernel
theorem dX7_feed_18 : decode cX7_feed 18 = .ok (.iload_n 1, 1) := by decide +kernel
theorem dX7_feed_19 : decode cX7_feed 19 = .ok (.invokevirtual 112, 3) := by decide +kernel
theorem dX7_feed_22 : decode cX7_feed 22 = .ok (.ifCond .eq 13, 3) := by decide +kernel
theorem dX7_feed_25 : decode cX7_feed 25 = .ok (.aload_n 0, 1) := by decide +kernel
theorem dX7_feed_26 : decode cX7_feed 26 = .ok (.getfield 32, 3) := by decide +kernel
theorem dX7_feed_29 : decode cX7_feed 29 = .ok (.getfield 116, 3) := by decide +kernel
theorem dX7_feed_32 : decode cX7_feed 32 = .ok (.goto 5, 3) := by decide +kernel
theorem dX7_feed_35 : decode cX7_feed 35 = .ok (.ldc 117, 2) := by decide +kernel
theorem dX7_feed_37 : decode cX7_feed 37 = .ok (.ireturn, 1) := by decide +kernel
set_option maxRecDepth 20000 in
theorem ggX7_lane_X6_readInto : GoodIn wsX7_lane wsX6_readInto := goodIn_r _ [13, 14, 15, 16, 17, 18, 12, 19, 20, 21, 22, 23, 24, 25, 26, 27, 28, 29, 30, 31, 32, 33, 34, 35, 36, 37, 38, 39, 40, 41, 42, 43, 44, 45, 46, 47, 48, 49, 50, 51, 52, 53, 54, 55, 56, 57, 58, 59, 60, 61, 62, 63, 64, 65, 66, 67, 68, 69, 70, 71, 72, 116, 117, 118, 119, 120, 121, 122, 123, 124, 125, 126, 127, 128, 129, 130, 131, 132] (by decide +kernel) (by decide +kernel)
set_option maxRecDepth 20000 in
theorem gX7_lane_X6_readInto : GoodIn wsX7_lane (wsV RX7 118 RX6 yX6_readInto wsX6_readInto) := goodIn_app (goodIn_of _ (by decide +kernel)) ggX7_lane_X6_readInto
set_option maxRecDepth 20000 in
theorem ggX7_lane_X6_clear : GoodIn wsX7_lane wsX6_clear := goodIn_r _ [76, 28, 116, 117, 118, 119] (by decide +kernel) (by decide +kernel)
set_option maxRecDepth 20000 in
theorem gX7_lane_X6_clear : GoodIn wsX7_lane (wsV RX7 125 RX6 yX6_clear wsX6_clear) := goodIn_app (goodIn_of _ (by decide +kernel)) ggX7_lane_X6_clear
set_option maxRecDepth 20000 in
theorem ggX7_lane_X3_be : GoodIn wsX7_lane wsX3_be := goodIn_r _ [81, 82, 83, 84, 85, 86, 87, 88, 89, 90, 91, 92, 93, 94, 95, 96, 97, 44, 98, 46, 47, 48, 49, 120, 121, 122, 123, 124, 125, 126, 127, 128, 129, 130, 131, 132] (by decide +kernel) (by decide +kernel)
set_option maxRecDepth 20000 in
theorem gX7_lane_X3_be : GoodIn wsX7_lane (wsV RX7 129 RX3 yX3_be wsX3_be) := goodIn_app (goodIn_of _ (by decide +kernel)) ggX7_lane_X3_be
set_option maxRecDepth 20000 in
theorem ggX7_lane_X0_clear : GoodIn wsX7_lane wsX0_clear := goodIn_r _ [103, 104, 133, 134, 135, 136, 137, 138] (by decide +kernel) (by decide +kernel)
set_option maxRecDepth 20000 in
theorem gX7_lane_X0_clear : GoodIn wsX7_lane (wsV RX7 133 RX0 yX0_clear wsX0_clear) := goodIn_app (goodIn_of _ (by decide +kernel)) ggX7_lane_X0_clear
theorem dX7_lane_0 : decode cX7_lane 0 = .ok (.aload_n 0, 1) := by decide +kernel
theorem dX7_lane_1 : decode cX7_lane 1 = .ok (.getfield 32, 3) := by decide +kernel
theorem dX7_lane_4 : decode cX7_lane 4 = .ok (.aload_n 0, 1) := by decide +kernel
theorem dX7_lane_5 : decode cX7_lane 5 = .ok (.getfield 26, 3) := by decide +kernel
theorem dX7_lane_8 : decode cX7_lane 8 = .ok (.invokevirtual 118, 3) := by decide +kernel
theorem dX7_lane_11 : decode cX7_lane 11 = .ok (.istore_n 1, 1) := by decide +kernel
theorem dX7_lane_12 : decode cX7_lane 12 = .ok (.aload_n 0, 1) := by decide +kernel
theorem dX7_lane_13 : decode cX7_lane 13 = .ok (.getfield 32, 3) := by decide +kernel
theorem dX7_lane_16 : decode cX7_lane 16 = .ok (.getfield 122, 3) := by decide +kernel
theorem dX7_lane_19 : decode cX7_lane 19 = .ok (.istore_n 2, 1) := by decide +kernel
theorem dX7_lane_20 : decode cX7_lane 20 = .ok (.aload_n 0, 1) := by decide +kernel
theorem dX7_lane_21 : decode cX7_lane 21 = .ok (.getfield 32, 3) := by decide +kernel
theorem dX7_lane_24 : decode cX7_lane 24 = .ok (.invokevirtual 125, 3) := by decide +kernel
theorem dX7_lane_27 : decode cX7_lane 27 = .ok (.iload_n 1, 1) := by decide +kernel
theorem dX7_lane_28 : decode cX7_lane 28 = .ok (.ifCond .eq 13, 3) := by decide +kernel
theorem dX7_lane_31 : decode cX7_lane 31 = .ok (.aload_n 0, 1) := by decide +kernel
theorem dX7_lane_32 : decode cX7_lane 32 = .ok (.iload_n 1, 1) := by decide +kernel
theorem dX7_lane_33 : decode cX7_lane 33 = .ok (.putfield 64, 3) := by decide +kernel
theorem dX7_lane_36 : decode cX7_lane 36 = .ok (.ldc 128, 2) := by decide +kernel
theorem dX7_lane_38 : decode cX7_lane 38 = .ok (.iload_n 2, 1) := by decide +kernel
theorem dX7_lane_39 : decode cX7_lane 39 = .ok (.isub, 1) := by decide +kernel
theorem dX7_lane_40 : decode cX7_lane 40 = .ok (.ireturn, 1) := by decide +kernel
theorem dX7_lane_41 : decode cX7_lane 41 = .ok (.aload_n 0, 1) := by decide +kernel
theorem dX7_lane_42 : decode cX7_lane 42 = .ok (.getfield 22, 3) := by decide +kernel
theorem dX7_lane_45 : decode cX7_lane 45 = .ok (.aload_n 0, 1) := by decide +kernel
theorem dX7_lane_46 : decode cX7_lane 46 = .ok (.getfield 26, 3) := by decide +kernel
theorem dX7_lane_49 : decode cX7_lane 49 = .ok (.invokevirtual 129, 3) := by decide +kernel
theorem dX7_lane_52 : decode cX7_lane 52 = .ok (.aload_n 0, 1) := by decide +kernel
theorem dX7_lane_53 : decode cX7_lane 53 = .ok (.getfield 39, 3) := by decide +kernel
theorem dX7_lane_56 : decode cX7_lane 56 = .ok (.invokevirtual 133, 3) := by decide +kernel
theorem dX7_lane_59 : decode cX7_lane 59 = .ok (.aload_n 0, 1) := by decide +kernel
theorem dX7_lane_60 : decode cX7_lane 60 = .ok (.getfield 22, 3) := by decide +kernel
theorem dX7_lane_63 : decode cX7_lane 63 = .ok (.getfield 134, 3) := by decide +kernel
theorem dX7_lane_66 : decode cX7_lane 66 = .ok (.ireturn, 1) := by decide +kernel
theorem dX7_fault_0 : decode cX7_fault 0 = .ok (.aload_n 0, 1) := by decide +kernel
theorem dX7_fault_1 : decode cX7_fault 1 = .ok (.getfield 64, 3) := by decide +kernel
theorem dX7_fault_4 : decode cX7_fault 4 = .ok (.ireturn, 1) := by decide +kernel
set_option maxRecDepth 20000 in
theorem ggX7_undo_X0_takeBack : GoodIn wsX7_undo wsX0_takeBack := goodIn_r _ [9, 10, 11, 12, 13, 14, 15, 16, 17, 18, 19, 20, 21, 22, 23, 24, 25, 26, 27, 39, 40, 41, 42, 43, 44, 45, 46, 47, 48, 49, 50, 51, 52, 53, 54, 55, 56, 57] (by decide +kernel) (by decide +kernel)
set_option maxRecDepth 20000 in
theorem gX7_undo_X0_takeBack : GoodIn wsX7_undo (wsV RX7 141 RX0 yX0_takeBack wsX0_takeBack) := goodIn_app (goodIn_of _ (by decide +kernel)) ggX7_undo_X0_takeBack
theorem dX7_undo_0 : decode cX7_undo 0 = .ok (.aload_n 0, 1) := by decide +kernel
theorem dX7_undo_1 : decode cX7_undo 1 = .ok (.getfield 39, 3) := by decide +kernel
theorem dX7_undo_4 : decode cX7_undo 4 = .ok (.getfield 137, 3) := by decide +kernel
theorem dX7_undo_7 : decode cX7_undo 7 = .ok (.ifCond .ne 6, 3) := by decide +kernel
theorem dX7_undo_10 : decode cX7_undo 10 = .ok (.ldc 140, 2) := by decide +kernel
theorem dX7_undo_12 : decode cX7_undo 12 = .ok (.ireturn, 1) := by decide +kernel
theorem dX7_undo_13 : decode cX7_undo 13 = .ok (.aload_n 0, 1) := by decide +kernel
theorem dX7_undo_14 : decode cX7_undo 14 = .ok (.getfield 39, 3) := by decide +kernel
theorem dX7_undo_17 : decode cX7_undo 17 = .ok (.aload_n 0, 1) := by decide +kernel
theorem dX7_undo_18 : decode cX7_undo 18 = .ok (.getfield 22, 3) := by decide +kernel
theorem dX7_undo_21 : decode cX7_undo 21 = .ok (.invokevirtual 141, 3) := by decide +kernel
theorem dX7_undo_24 : decode cX7_undo 24 = .ok (.aload_n 0, 1) := by decide +kernel
theorem dX7_undo_25 : decode cX7_undo 25 = .ok (.getfield 39, 3) := by decide +kernel
theorem dX7_undo_28 : decode cX7_undo 28 = .ok (.getfield 137, 3) := by decide +kernel
theorem dX7_undo_31 : decode cX7_undo 31 = .ok (.ireturn, 1) := by decide +kernel
set_option maxRecDepth 20000 in
theorem ggX7_moment_X3_isThere : GoodIn wsX7_moment wsX3_isThere := goodIn_r _ [15, 16, 98, 99, 100, 101, 102, 103, 104, 105, 106] (by decide +kernel) (by decide +kernel)
set_option maxRecDepth 20000 in
theorem gX7_moment_X3_isThere : GoodIn wsX7_moment (wsV RX7 144 RX3 yX3_isThere wsX3_isThere) := goodIn_app (goodIn_of _ (by decide +kernel)) ggX7_moment_X3_isThere
set_option maxRecDepth 20000 in
theorem ggX7_moment_X7_isOut : GoodIn wsX7_moment wsX7_isOut := goodIn_r _ [20] (by decide +kernel) (by decide +kernel)
set_option maxRecDepth 20000 in
theorem gX7_moment_X7_isOut : GoodIn wsX7_moment (va_wsS RX7 72 yX7_isOut wsX7_isOut) := goodIn_app (goodIn_of _ (by decide +kernel)) ggX7_moment_X7_isOut
set_option maxRecDepth 20000 in
theorem ggX7_moment_X0_keep : GoodIn wsX7_moment wsX0_keep := goodIn_r _ [25, 26, 27, 28, 29, 30, 31, 32, 33, 34, 35, 36, 37, 38, 39, 40, 41, 42, 43, 44, 45, 46, 47, 111, 112, 113, 114, 115, 116, 98, 99, 100, 101, 102, 103, 104, 105, 106, 107, 108, 109, 110] (by decide +kernel) (by decide +kernel)
set_option maxRecDepth 20000 in
theorem gX7_moment_X0_keep : GoodIn wsX7_moment (wsV RX7 156 RX0 yX0_keep wsX0_keep) := goodIn_app (goodIn_of _ (by decide +kernel)) ggX7_moment_X0_keep
set_option maxRecDepth 20000 in
theorem ggX7_moment_X3_kindAt : GoodIn wsX7_moment wsX3_kindAt := goodIn_r _ [51, 52, 53, 18, 19, 20, 98, 99, 100, 101, 102, 103, 104, 105, 106] (by decide +kernel) (by decide +kernel)
set_option maxRecDepth 20000 in
theorem gX7_moment_X3_kindAt : GoodIn wsX7_moment (wsV RX7 160 RX3 yX3_kindAt wsX3_kindAt) := goodIn_app (goodIn_of _ (by decide +kernel)) ggX7_moment_X3_kindAt
set_option maxRecDepth 20000 in
theorem ggX7_moment_X3_forceAt : GoodIn wsX7_moment wsX3_forceAt := goodIn_r _ [57, 52, 58, 18, 19, 20, 98, 99, 100, 101, 102, 103, 104, 105, 106] (by decide +kernel) (by decide +kernel)
set_option maxRecDepth 20000 in
theorem gX7_moment_X3_forceAt : GoodIn wsX7_moment (wsV RX7 163 RX3 yX3_forceAt wsX3_forceAt) := goodIn_app (goodIn_of _ (by decide +kernel)) ggX7_moment_X3_forceAt
set_option maxRecDepth 20000 in
theorem ggX7_moment_X2_pass : GoodIn wsX7_moment wsX2_pass := goodIn_r _ [62, 47, 44, 45, 63, 64, 65, 46, 66, 67, 68, 69, 42, 70, 71, 72, 37, 73, 74, 36, 38, 75, 76, 77, 78, 79, 80, 81, 82, 83, 84, 85, 86, 18, 19, 20, 107, 108, 109, 110, 98, 99, 100, 101, 102, 103, 104, 105, 106] (by decide +kernel) (by decide +kernel)
set_option maxRecDepth 20000 in
theorem gX7_moment_X2_pass : GoodIn wsX7_moment (wsV RX7 166 RX2 yX2_pass wsX2_pass) := goodIn_app (goodIn_of _ (by decide +kernel)) ggX7_moment_X2_pass
theorem dX7_moment_0 : decode cX7_moment 0 = .ok (.aload_n 0, 1) := by decide +kernel
theorem dX7_moment_1 : decode cX7_moment 1 = .ok (.getfield 22, 3) := by decide +kernel
theorem dX7_moment_4 : decode cX7_moment 4 = .ok (.invokevirtual 144, 3) := by decide +kernel
theorem dX7_moment_7 : decode cX7_moment 7 = .ok (.ifCond .ne 6, 3) := by decide +kernel
theorem dX7_moment_10 : decode cX7_moment 10 = .ok (.ldc 140, 2) := by decide +kernel
theorem dX7_moment_12 : decode cX7_moment 12 = .ok (.ireturn, 1) := by decide +kernel
theorem dX7_moment_13 : decode cX7_moment 13 = .ok (.iload_n 1, 1) := by decide +kernel
theorem dX7_moment_14 : decode cX7_moment 14 = .ok (.iconst (-1), 1) := by decide +kernel
theorem dX7_moment_15 : decode cX7_moment 15 = .ok (.aload_n 0, 1) := by decide +kernel
theorem dX7_moment_16 : decode cX7_moment 16 = .ok (.getfield 22, 3) := by decide +kernel
theorem dX7_moment_19 : decode cX7_moment 19 = .ok (.getfield 134, 3) := by decide +kernel
theorem dX7_moment_22 : decode cX7_moment 22 = .ok (.iconst 1, 1) := by decide +kernel
theorem dX7_moment_23 : decode cX7_moment 23 = .ok (.isub, 1) := by decide +kernel
theorem dX7_moment_24 : decode cX7_moment 24 = .ok (.invokestatic 72, 3) := by decide +kernel
theorem dX7_moment_27 : decode cX7_moment 27 = .ok (.ifCond .eq 6, 3) := by decide +kernel
theorem dX7_moment_30 : decode cX7_moment 30 = .ok (.ldc 76, 2) := by decide +kernel
theorem dX7_moment_32 : decode cX7_moment 32 = .ok (.ireturn, 1) := by decide +kernel
theorem dX7_moment_33 : decode cX7_moment 33 = .ok (.aload_n 0, 1) := by decide +kernel
theorem dX7_moment_34 : decode cX7_moment 34 = .ok (.getfield 22, 3) := by decide +kernel
theorem dX7_moment_37 : decode cX7_moment 37 = .ok (.getfield 147, 3) := by decide +kernel
theorem dX7_moment_40 : decode cX7_moment 40 = .ok (.getfield 150, 3) := by decide +kernel
theorem dX7_moment_43 : decode cX7_moment 43 = .ok (.ifCond .eq 6, 3) := by decide +kernel
theorem dX7_moment_46 : decode cX7_moment 46 = .ok (.ldc 140, 2) := by decide +kernel
theorem dX7_moment_48 : decode cX7_moment 48 = .ok (.ireturn, 1) := by decide +kernel
theorem dX7_moment_49 : decode cX7_moment 49 = .ok (.aload_n 0, 1) := by decide +kernel
theorem dX7_moment_50 : decode cX7_moment 50 = .ok (.getfield 22, 3) := by decide +kernel
theorem dX7_moment_53 : decode cX7_moment 53 = .ok (.getfield 153, 3) := by decide +kernel
theorem dX7_moment_56 : decode cX7_moment 56 = .ok (.sipush 999, 3) := by decide +kernel
theorem dX7_moment_59 : decode cX7_moment 59 = .ok (.if_icmp .lt 6, 3) := by decide +kernel
theorem dX7_moment_62 : decode cX7_moment 62 = .ok (.ldc 117, 2) := by decide +kernel
theorem dX7_moment_64 : decode cX7_moment 64 = .ok (.ireturn, 1) := by decide +kernel
theorem dX7_moment_65 : decode cX7_moment 65 = .ok (.aload_n 0, 1) := by decide +kernel
theorem dX7_moment_66 : decode cX7_moment 66 = .ok (.getfield 39, 3) := by decide +kernel
theorem dX7_moment_69 : decode cX7_moment 69 = .ok (.aload_n 0, 1) := by decide +kernel
theorem dX7_moment_70 : decode cX7_moment 70 = .ok (.getfield 22, 3) := by decide +kernel
theorem dX7_moment_73 : decode cX7_moment 73 = .ok (.iconst 0, 1) := by decide +kernel
theorem dX7_moment_74 : decode cX7_moment 74 = .ok (.invokevirtual 156, 3) := by decide +kernel
theorem dX7_moment_77 : decode cX7_moment 77 = .ok (.aload_n 0, 1) := by decide +kernel
theorem dX7_moment_78 : decode cX7_moment 78 = .ok (.getfield 22, 3) := by decide +kernel
theorem dX7_moment_81 : decode cX7_moment 81 = .ok (.getfield 147, 3) := by decide +kernel
theorem dX7_moment_84 : decode cX7_moment 84 = .ok (.aload_n 0, 1) := by decide +kernel
theorem dX7_moment_85 : decode cX7_moment 85 = .ok (.getfield 22, 3) := by decide +kernel
theorem dX7_moment_88 : decode cX7_moment 88 = .ok (.aload_n 0, 1) := by decide +kernel
theorem dX7_moment_89 : decode cX7_moment 89 = .ok (.getfield 22, 3) := by decide +kernel
theorem dX7_moment_92 : decode cX7_moment 92 = .ok (.iload_n 1, 1) := by decide +kernel
theorem dX7_moment_93 : decode cX7_moment 93 = .ok (.invokevirtual 160, 3) := by decide +kernel
theorem dX7_moment_96 : decode cX7_moment 96 = .ok (.aload_n 0, 1) := by decide +kernel
theorem dX7_moment_97 : decode cX7_moment 97 = .ok (.getfield 22, 3) := by decide +kernel
theorem dX7_moment_100 : decode cX7_moment 100 = .ok (.iload_n 1, 1) := by decide +kernel
theorem dX7_moment_101 : decode cX7_moment 101 = .ok (.invokevirtual 163, 3) := by decide +kernel
theorem dX7_moment_104 : decode cX7_moment 104 = .ok (.invokevirtual 166, 3) := by decide +kernel
theorem dX7_moment_107 : decode cX7_moment 107 = .ok (.aload_n 0, 1) := by decide +kernel
theorem dX7_moment_108 : decode cX7_moment 108 = .ok (.getfield 22, 3) := by decide +kernel
theorem dX7_moment_111 : decode cX7_moment 111 = .ok (.dup, 1) := by decide +kernel
theorem dX7_moment_112 : decode cX7_moment 112 = .ok (.getfield 153, 3) := by decide +kernel
theorem dX7_moment_115 : decode cX7_moment 115 = .ok (.iconst 1, 1) := by decide +kernel
theorem dX7_moment_116 : decode cX7_moment 116 = .ok (.iadd, 1) := by decide +kernel
theorem dX7_moment_117 : decode cX7_moment 117 = .ok (.putfield 153, 3) := by decide +kernel
theorem dX7_moment_120 : decode cX7_moment 120 = .ok (.aload_n 0, 1) := by decide +kernel
theorem dX7_moment_121 : decode cX7_moment 121 = .ok (.getfield 22, 3) := by decide +kernel
theorem dX7_moment_124 : decode cX7_moment 124 = .ok (.getfield 147, 3) := by decide +kernel
theorem dX7_moment_127 : decode cX7_moment 127 = .ok (.getfield 170, 3) := by decide +kernel
theorem dX7_moment_130 : decode cX7_moment 130 = .ok (.ireturn, 1) := by decide +kernel
set_option maxRecDepth 20000 in
theorem ggX7_setUp_X3_isThere : GoodIn wsX7_setUp wsX3_isThere := goodIn_r _ [13, 14, 61, 62, 63, 64, 65, 66, 67, 68, 69] (by decide +kernel) (by decide +kernel)
set_option maxRecDepth 20000 in
theorem gX7_setUp_X3_isThere : GoodIn wsX7_setUp (wsV RX7 144 RX3 yX3_isThere wsX3_isThere) := goodIn_app (goodIn_of _ (by decide +kernel)) ggX7_setUp_X3_isThere
set_option maxRecDepth 20000 in
theorem ggX7_setUp_X7_isOut : GoodIn wsX7_setUp wsX7_isOut := goodIn_r _ [18] (by decide +kernel) (by decide +kernel)
set_option maxRecDepth 20000 in
theorem gX7_setUp_X7_isOut : GoodIn wsX7_setUp (va_wsS RX7 72 yX7_isOut wsX7_isOut) := goodIn_app (goodIn_of _ (by decide +kernel)) ggX7_setUp_X7_isOut
set_option maxRecDepth 20000 in
theorem ggX7_setUp_X0_keep : GoodIn wsX7_setUp wsX0_keep := goodIn_r _ [23, 24, 25, 26, 27, 28, 29, 30, 31, 32, 33, 34, 35, 36, 37, 38, 39, 40, 41, 42, 43, 44, 45, 74, 75, 76, 77, 78, 79, 61, 62, 63, 64, 65, 66, 67, 68, 69, 70, 71, 72, 73] (by decide +kernel) (by decide +kernel)
set_option maxRecDepth 20000 in
theorem gX7_setUp_X0_keep : GoodIn wsX7_setUp (wsV RX7 156 RX0 yX0_keep wsX0_keep) := goodIn_app (goodIn_of _ (by decide +kernel)) ggX7_setUp_X0_keep
set_option maxRecDepth 20000 in
theorem ggX7_setUp_X2_stand : GoodIn wsX7_setUp wsX2_stand := goodIn_r _ [49, 42, 43, 44, 45, 70, 71, 72, 73] (by decide +kernel) (by decide +kernel)
set_option maxRecDepth 20000 in
theorem gX7_setUp_X2_stand : GoodIn wsX7_setUp (wsV RX7 179 RX2 yX2_stand wsX2_stand) := goodIn_app (goodIn_of _ (by decide +kernel)) ggX7_setUp_X2_stand
theorem dX7_setUp_0 : decode cX7_setUp 0 = .ok (.aload_n 0, 1) := by decide +kernel
theorem dX7_setUp_1 : decode cX7_setUp 1 = .ok (.getfield 22, 3) := by decide +kernel
theorem dX7_setUp_4 : decode cX7_setUp 4 = .ok (.invokevirtual 144, 3) := by decide +kernel
theorem dX7_setUp_7 : decode cX7_setUp 7 = .ok (.ifCond .ne 6, 3) := by decide +kernel
theorem dX7_setUp_10 : decode cX7_setUp 10 = .ok (.ldc 140, 2) := by decide +kernel
theorem dX7_setUp_12 : decode cX7_setUp 12 = .ok (.ireturn, 1) := by decide +kernel
theorem dX7_setUp_13 : decode cX7_setUp 13 = .ok (.iload_n 1, 1) := by decide +kernel
theorem dX7_setUp_14 : decode cX7_setUp 14 = .ok (.iconst 0, 1) := by decide +kernel
theorem dX7_setUp_15 : decode cX7_setUp 15 = .ok (.aload_n 0, 1) := by decide +kernel
theorem dX7_setUp_16 : decode cX7_setUp 16 = .ok (.getfield 22, 3) := by decide +kernel
theorem dX7_setUp_19 : decode cX7_setUp 19 = .ok (.getfield 173, 3) := by decide +kernel
theorem dX7_setUp_22 : decode cX7_setUp 22 = .ok (.iconst 1, 1) := by decide +kernel
theorem dX7_setUp_23 : decode cX7_setUp 23 = .ok (.isub, 1) := by decide +kernel
theorem dX7_setUp_24 : decode cX7_setUp 24 = .ok (.invokestatic 72, 3) := by decide +kernel
theorem dX7_setUp_27 : decode cX7_setUp 27 = .ok (.ifCond .ne 36, 3) := by decide +kernel
theorem dX7_setUp_30 : decode cX7_setUp 30 = .ok (.iload_n 2, 1) := by decide +kernel
theorem dX7_setUp_31 : decode cX7_setUp 31 = .ok (.iconst 1, 1) := by decide +kernel
theorem dX7_setUp_32 : decode cX7_setUp 32 = .ok (.bipush 9, 2) := by decide +kernel
theorem dX7_setUp_34 : decode cX7_setUp 34 = .ok (.invokestatic 72, 3) := by decide +kernel
theorem dX7_setUp_37 : decode cX7_setUp 37 = .ok (.ifCond .ne 26, 3) := by decide +kernel
theorem dX7_setUp_40 : decode cX7_setUp 40 = .ok (.iload_n 3, 1) := by decide +kernel
theorem dX7_setUp_41 : decode cX7_setUp 41 = .ok (.iconst 0, 1) := by decide +kernel
theorem dX7_setUp_42 : decode cX7_setUp 42 = .ok (.aload_n 0, 1) := by decide +kernel
theorem dX7_setUp_43 : decode cX7_setUp 43 = .ok (.getfield 22, 3) := by decide +kernel
theorem dX7_setUp_46 : decode cX7_setUp 46 = .ok (.getfield 176, 3) := by decide +kernel
theorem dX7_setUp_49 : decode cX7_setUp 49 = .ok (.isub, 1) := by decide +kernel
theorem dX7_setUp_50 : decode cX7_setUp 50 = .ok (.aload_n 0, 1) := by decide +kernel
theorem dX7_setUp_51 : decode cX7_setUp 51 = .ok (.getfield 22, 3) := by decide +kernel
theorem dX7_setUp_54 : decode cX7_setUp 54 = .ok (.getfield 176, 3) := by decide +kernel
theorem dX7_setUp_57 : decode cX7_setUp 57 = .ok (.invokestatic 72, 3) := by decide +kernel
theorem dX7_setUp_60 : decode cX7_setUp 60 = .ok (.ifCond .eq 6, 3) := by decide +kernel
theorem dX7_setUp_63 : decode cX7_setUp 63 = .ok (.ldc 76, 2) := by decide +kernel
theorem dX7_setUp_65 : decode cX7_setUp 65 = .ok (.ireturn, 1) := by decide +kernel
theorem dX7_setUp_66 : decode cX7_setUp 66 = .ok (.aload_n 0, 1) := by decide +kernel
theorem dX7_setUp_67 : decode cX7_setUp 67 = .ok (.getfield 22, 3) := by decide +kernel
theorem dX7_setUp_70 : decode cX7_setUp 70 = .ok (.getfield 147, 3) := by decide +kernel
theorem dX7_setUp_73 : decode cX7_setUp 73 = .ok (.getfield 170, 3) := by decide +kernel
theorem dX7_setUp_76 : decode cX7_setUp 76 = .ok (.istore 4, 2) := by decide +kernel
theorem dX7_setUp_78 : decode cX7_setUp 78 = .ok (.aload_n 0, 1) := by decide +kernel
theorem dX7_setUp_79 : decode cX7_setUp 79 = .ok (.getfield 39, 3) := by decide +kernel
theorem dX7_setUp_82 : decode cX7_setUp 82 = .ok (.aload_n 0, 1) := by decide +kernel
theorem dX7_setUp_83 : decode cX7_setUp 83 = .ok (.getfield 22, 3) := by decide +kernel
theorem dX7_setUp_86 : decode cX7_setUp 86 = .ok (.iconst 0, 1) := by decide +kernel
theorem dX7_setUp_87 : decode cX7_setUp 87 = .ok (.invokevirtual 156, 3) := by decide +kernel
theorem dX7_setUp_90 : decode cX7_setUp 90 = .ok (.aload_n 0, 1) := by decide +kernel
theorem dX7_setUp_91 : decode cX7_setUp 91 = .ok (.getfield 22, 3) := by decide +kernel
theorem dX7_setUp_94 : decode cX7_setUp 94 = .ok (.getfield 147, 3) := by decide +kernel
theorem dX7_setUp_97 : decode cX7_setUp 97 = .ok (.iload_n 1, 1) := by decide +kernel
theorem dX7_setUp_98 : decode cX7_setUp 98 = .ok (.iload_n 2, 1) := by decide +kernel
theorem dX7_setUp_99 : decode cX7_setUp 99 = .ok (.iload_n 3, 1) := by decide +kernel
theorem dX7_setUp_100 : decode cX7_setUp 100 = .ok (.invokevirtual 179, 3) := by decide +kernel
theorem dX7_setUp_103 : decode cX7_setUp 103 = .ok (.iload 4, 2) := by decide +kernel
theorem dX7_setUp_105 : decode cX7_setUp 105 = .ok (.ireturn, 1) := by decide +kernel
set_option maxRecDepth 20000 in
theorem ggX7_lay_X3_isThere : GoodIn wsX7_lay wsX3_isThere := goodIn_r _ [11, 12, 55, 56, 57, 58, 59, 60, 61, 62, 63] (by decide +kernel) (by decide +kernel)
set_option maxRecDepth 20000 in
theorem gX7_lay_X3_isThere : GoodIn wsX7_lay (wsV RX7 144 RX3 yX3_isThere wsX3_isThere) := goodIn_app (goodIn_of _ (by decide +kernel)) ggX7_lay_X3_isThere
set_option maxRecDepth 20000 in
theorem ggX7_lay_X7_isOut : GoodIn wsX7_lay wsX7_isOut := goodIn_r _ [16] (by decide +kernel) (by decide +kernel)
set_option maxRecDepth 20000 in
theorem gX7_lay_X7_isOut : GoodIn wsX7_lay (va_wsS RX7 72 yX7_isOut wsX7_isOut) := goodIn_app (goodIn_of _ (by decide +kernel)) ggX7_lay_X7_isOut
set_option maxRecDepth 20000 in
theorem ggX7_lay_X0_keep : GoodIn wsX7_lay wsX0_keep := goodIn_r _ [21, 22, 23, 24, 25, 26, 27, 28, 29, 30, 31, 32, 33, 34, 35, 36, 37, 38, 39, 40, 41, 42, 43, 64, 65, 66, 67, 68, 69, 55, 56, 57, 58, 59, 60, 61, 62, 63, 70, 71, 72, 73] (by decide +kernel) (by decide +kernel)
set_option maxRecDepth 20000 in
theorem gX7_lay_X0_keep : GoodIn wsX7_lay (wsV RX7 156 RX0 yX0_keep wsX0_keep) := goodIn_app (goodIn_of _ (by decide +kernel)) ggX7_lay_X0_keep
theorem dX7_lay_0 : decode cX7_lay 0 = .ok (.aload_n 0, 1) := by decide +kernel
theorem dX7_lay_1 : decode cX7_lay 1 = .ok (.getfield 22, 3) := by decide +kernel
theorem dX7_lay_4 : decode cX7_lay 4 = .ok (.invokevirtual 144, 3) := by decide +kernel
theorem dX7_lay_7 : decode cX7_lay 7 = .ok (.ifCond .ne 6, 3) := by decide +kernel
theorem dX7_lay_10 : decode cX7_lay 10 = .ok (.ldc 140, 2) := by decide +kernel
theorem dX7_lay_12 : decode cX7_lay 12 = .ok (.ireturn, 1) := by decide +kernel
theorem dX7_lay_13 : decode cX7_lay 13 = .ok (.iload_n 1, 1) := by decide +kernel
theorem dX7_lay_14 : decode cX7_lay 14 = .ok (.iconst 0, 1) := by decide +kernel
theorem dX7_lay_15 : decode cX7_lay 15 = .ok (.aload_n 0, 1) := by decide +kernel
theorem dX7_lay_16 : decode cX7_lay 16 = .ok (.getfield 22, 3) := by decide +kernel
theorem dX7_lay_19 : decode cX7_lay 19 = .ok (.getfield 173, 3) := by decide +kernel
theorem dX7_lay_22 : decode cX7_lay 22 = .ok (.iconst 1, 1) := by decide +kernel
theorem dX7_lay_23 : decode cX7_lay 23 = .ok (.isub, 1) := by decide +kernel
theorem dX7_lay_24 : decode cX7_lay 24 = .ok (.invokestatic 72, 3) := by decide +kernel
theorem dX7_lay_27 : decode cX7_lay 27 = .ok (.ifCond .ne 12, 3) := by decide +kernel
theorem dX7_lay_30 : decode cX7_lay 30 = .ok (.iload_n 2, 1) := by decide +kernel
theorem dX7_lay_31 : decode cX7_lay 31 = .ok (.iconst 0, 1) := by decide +kernel
theorem dX7_lay_32 : decode cX7_lay 32 = .ok (.iconst 5, 1) := by decide +kernel
theorem dX7_lay_33 : decode cX7_lay 33 = .ok (.invokestatic 72, 3) := by decide +kernel
theorem dX7_lay_36 : decode cX7_lay 36 = .ok (.ifCond .eq 6, 3) := by decide +kernel
theorem dX7_lay_39 : decode cX7_lay 39 = .ok (.ldc 76, 2) := by decide +kernel
theorem dX7_lay_41 : decode cX7_lay 41 = .ok (.ireturn, 1) := by decide +kernel
theorem dX7_lay_42 : decode cX7_lay 42 = .ok (.aload_n 0, 1) := by decide +kernel
theorem dX7_lay_43 : decode cX7_lay 43 = .ok (.getfield 22, 3) := by decide +kernel
theorem dX7_lay_46 : decode cX7_lay 46 = .ok (.getfield 183, 3) := by decide +kernel
theorem dX7_lay_49 : decode cX7_lay 49 = .ok (.iload_n 1, 1) := by decide +kernel
theorem dX7_lay_50 : decode cX7_lay 50 = .ok (.iaload, 1) := by decide +kernel
theorem dX7_lay_51 : decode cX7_lay 51 = .ok (.istore_n 3, 1) := by decide +kernel
theorem dX7_lay_52 : decode cX7_lay 52 = .ok (.aload_n 0, 1) := by decide +kernel
theorem dX7_lay_53 : decode cX7_lay 53 = .ok (.getfield 39, 3) := by decide +kernel
theorem dX7_lay_56 : decode cX7_lay 56 = .ok (.aload_n 0, 1) := by decide +kernel
theorem dX7_lay_57 : decode cX7_lay 57 = .ok (.getfield 22, 3) := by decide +kernel
theorem dX7_lay_60 : decode cX7_lay 60 = .ok (.iload_n 1, 1) := by decide +kernel
theorem dX7_lay_61 : decode cX7_lay 61 = .ok (.invokevirtual 156, 3) := by decide +kernel
theorem dX7_lay_64 : decode cX7_lay 64 = .ok (.aload_n 0, 1) := by decide +kernel
theorem dX7_lay_65 : decode cX7_lay 65 = .ok (.getfield 22, 3) := by decide +kernel
theorem dX7_lay_68 : decode cX7_lay 68 = .ok (.getfield 183, 3) := by decide +kernel
theorem dX7_lay_71 : decode cX7_lay 71 = .ok (.iload_n 1, 1) := by decide +kernel
theorem dX7_lay_72 : decode cX7_lay 72 = .ok (.iload_n 2, 1) := by decide +kernel
theorem dX7_lay_73 : decode cX7_lay 73 = .ok (.iastore, 1) := by decide +kernel
theorem dX7_lay_74 : decode cX7_lay 74 = .ok (.iload_n 3, 1) := by decide +kernel
theorem dX7_lay_75 : decode cX7_lay 75 = .ok (.ireturn, 1) := by decide +kernel
set_option maxRecDepth 20000 in
theorem ggX7_hoop_X3_isThere : GoodIn wsX7_hoop wsX3_isThere := goodIn_r _ [10, 11, 36, 37, 38, 39, 40, 41, 42, 43, 44] (by decide +kernel) (by decide +kernel)
set_option maxRecDepth 20000 in
theorem gX7_hoop_X3_isThere : GoodIn wsX7_hoop (wsV RX7 144 RX3 yX3_isThere wsX3_isThere) := goodIn_app (goodIn_of _ (by decide +kernel)) ggX7_hoop_X3_isThere
set_option maxRecDepth 20000 in
theorem ggX7_hoop_X7_isOut : GoodIn wsX7_hoop wsX7_isOut := goodIn_r _ [15] (by decide +kernel) (by decide +kernel)
set_option maxRecDepth 20000 in
theorem gX7_hoop_X7_isOut : GoodIn wsX7_hoop (va_wsS RX7 72 yX7_isOut wsX7_isOut) := goodIn_app (goodIn_of _ (by decide +kernel)) ggX7_hoop_X7_isOut
set_option maxRecDepth 20000 in
theorem ggX7_hoop_X2_tell : GoodIn wsX7_hoop wsX2_tell := goodIn_r _ [20, 21, 22, 23, 24, 45, 46, 47, 48] (by decide +kernel) (by decide +kernel)
set_option maxRecDepth 20000 in
theorem gX7_hoop_X2_tell : GoodIn wsX7_hoop (wsV RX7 186 RX2 yX2_tell wsX2_tell) := goodIn_app (goodIn_of _ (by decide +kernel)) ggX7_hoop_X2_tell
theorem dX7_hoop_0 : decode cX7_hoop 0 = .ok (.aload_n 0, 1) := by decide +kernel
theorem dX7_hoop_1 : decode cX7_hoop 1 = .ok (.getfield 22, 3) := by decide +kernel
theorem dX7_hoop_4 : decode cX7_hoop 4 = .ok (.invokevirtual 144, 3) := by decide +kernel
theorem dX7_hoop_7 : decode cX7_hoop 7 = .ok (.ifCond .ne 6, 3) := by decide +kernel
theorem dX7_hoop_10 : decode cX7_hoop 10 = .ok (.ldc 140, 2) := by decide +kernel
theorem dX7_hoop_12 : decode cX7_hoop 12 = .ok (.ireturn, 1) := by decide +kernel
theorem dX7_hoop_13 : decode cX7_hoop 13 = .ok (.iload_n 1, 1) := by decide +kernel
theorem dX7_hoop_14 : decode cX7_hoop 14 = .ok (.iconst 0, 1) := by decide +kernel
theorem dX7_hoop_15 : decode cX7_hoop 15 = .ok (.iconst 4, 1) := by decide +kernel
theorem dX7_hoop_16 : decode cX7_hoop 16 = .ok (.invokestatic 72, 3) := by decide +kernel
theorem dX7_hoop_19 : decode cX7_hoop 19 = .ok (.ifCond .eq 6, 3) := by decide +kernel
theorem dX7_hoop_22 : decode cX7_hoop 22 = .ok (.ldc 76, 2) := by decide +kernel
theorem dX7_hoop_24 : decode cX7_hoop 24 = .ok (.ireturn, 1) := by decide +kernel
theorem dX7_hoop_25 : decode cX7_hoop 25 = .ok (.iload_n 1, 1) := by decide +kernel
theorem dX7_hoop_26 : decode cX7_hoop 26 = .ok (.iconst 4, 1) := by decide +kernel
theorem dX7_hoop_27 : decode cX7_hoop 27 = .ok (.if_icmp .ne 13, 3) := by decide +kernel
theorem dX7_hoop_30 : decode cX7_hoop 30 = .ok (.aload_n 0, 1) := by decide +kernel
theorem dX7_hoop_31 : decode cX7_hoop 31 = .ok (.getfield 22, 3) := by decide +kernel
theorem dX7_hoop_34 : decode cX7_hoop 34 = .ok (.getfield 153, 3) := by decide +kernel
theorem dX7_hoop_37 : decode cX7_hoop 37 = .ok (.goto 14, 3) := by decide +kernel
theorem dX7_hoop_40 : decode cX7_hoop 40 = .ok (.aload_n 0, 1) := by decide +kernel
theorem dX7_hoop_41 : decode cX7_hoop 41 = .ok (.getfield 22, 3) := by decide +kernel
theorem dX7_hoop_44 : decode cX7_hoop 44 = .ok (.getfield 147, 3) := by decide +kernel
theorem dX7_hoop_47 : decode cX7_hoop 47 = .ok (.iload_n 1, 1) := by decide +kernel
theorem dX7_hoop_48 : decode cX7_hoop 48 = .ok (.invokevirtual 186, 3) := by decide +kernel
theorem dX7_hoop_51 : decode cX7_hoop 51 = .ok (.ireturn, 1) := by decide +kernel
set_option maxRecDepth 20000 in
theorem ggX7_ground_X7_isOut : GoodIn wsX7_ground wsX7_isOut := goodIn_r _ [8] (by decide +kernel) (by decide +kernel)
set_option maxRecDepth 20000 in
theorem gX7_ground_X7_isOut : GoodIn wsX7_ground (va_wsS RX7 72 yX7_isOut wsX7_isOut) := goodIn_app (goodIn_of _ (by decide +kernel)) ggX7_ground_X7_isOut
theorem dX7_ground_0 : decode cX7_ground 0 = .ok (.iload_n 1, 1) := by decide +kernel
theorem dX7_ground_1 : decode cX7_ground 1 = .ok (.iconst 0, 1) := by decide +kernel
theorem dX7_ground_2 : decode cX7_ground 2 = .ok (.aload_n 0, 1) := by decide +kernel
theorem dX7_ground_3 : decode cX7_ground 3 = .ok (.getfield 22, 3) := by decide +kernel
theorem dX7_ground_6 : decode cX7_ground 6 = .ok (.getfield 173, 3) := by decide +kernel
theorem dX7_ground_9 : decode cX7_ground 9 = .ok (.iconst 1, 1) := by decide +kernel
theorem dX7_ground_10 : decode cX7_ground 10 = .ok (.isub, 1) := by decide +kernel
theorem dX7_ground_11 : decode cX7_ground 11 = .ok (.invokestatic 72, 3) := by decide +kernel
theorem dX7_ground_14 : decode cX7_ground 14 = .ok (.ifCond .eq 8, 3) := by decide +kernel
theorem dX7_ground_17 : decode cX7_ground 17 = .ok (.ldc 76, 2) := by decide +kernel
theorem dX7_ground_19 : decode cX7_ground 19 = .ok (.goto 12, 3) := by decide +kernel
theorem dX7_ground_22 : decode cX7_ground 22 = .ok (.aload_n 0, 1) := by decide +kernel
theorem dX7_ground_23 : decode cX7_ground 23 = .ok (.getfield 22, 3) := by decide +kernel
theorem dX7_ground_26 : decode cX7_ground 26 = .ok (.getfield 183, 3) := by decide +kernel
theorem dX7_ground_29 : decode cX7_ground 29 = .ok (.iload_n 1, 1) := by decide +kernel
theorem dX7_ground_30 : decode cX7_ground 30 = .ok (.iaload, 1) := by decide +kernel
theorem dX7_ground_31 : decode cX7_ground 31 = .ok (.ireturn, 1) := by decide +kernel
set_option maxRecDepth 20000 in
theorem ggX7_force_X7_isOut : GoodIn wsX7_force wsX7_isOut := goodIn_r _ [7] (by decide +kernel) (by decide +kernel)
set_option maxRecDepth 20000 in
theorem gX7_force_X7_isOut : GoodIn wsX7_force (va_wsS RX7 72 yX7_isOut wsX7_isOut) := goodIn_app (goodIn_of _ (by decide +kernel)) ggX7_force_X7_isOut
set_option maxRecDepth 20000 in
theorem ggX7_force_X3_forceAt : GoodIn wsX7_force wsX3_forceAt := goodIn_r _ [12, 13, 14, 5, 6, 7, 26, 27, 28, 29, 30, 31, 32, 33, 34] (by decide +kernel) (by decide +kernel)
set_option maxRecDepth 20000 in
theorem gX7_force_X3_forceAt : GoodIn wsX7_force (wsV RX7 163 RX3 yX3_forceAt wsX3_forceAt) := goodIn_app (goodIn_of _ (by decide +kernel)) ggX7_force_X3_forceAt
theorem dX7_force_0 : decode cX7_force 0 = .ok (.iload_n 1, 1) := by decide +kernel
theorem dX7_force_1 : decode cX7_force 1 = .ok (.iconst 0, 1) := by decide +kernel
theorem dX7_force_2 : decode cX7_force 2 = .ok (.aload_n 0, 1) := by decide +kernel
theorem dX7_force_3 : decode cX7_force 3 = .ok (.getfield 22, 3) := by decide +kernel
theorem dX7_force_6 : decode cX7_force 6 = .ok (.getfield 134, 3) := by decide +kernel
theorem dX7_force_9 : decode cX7_force 9 = .ok (.iconst 1, 1) := by decide +kernel
theorem dX7_force_10 : decode cX7_force 10 = .ok (.isub, 1) := by decide +kernel
theorem dX7_force_11 : decode cX7_force 11 = .ok (.invokestatic 72, 3) := by decide +kernel
theorem dX7_force_14 : decode cX7_force 14 = .ok (.ifCond .eq 8, 3) := by decide +kernel
theorem dX7_force_17 : decode cX7_force 17 = .ok (.ldc 76, 2) := by decide +kernel
theorem dX7_force_19 : decode cX7_force 19 = .ok (.goto 11, 3) := by decide +kernel
theorem dX7_force_22 : decode cX7_force 22 = .ok (.aload_n 0, 1) := by decide +kernel
theorem dX7_force_23 : decode cX7_force 23 = .ok (.getfield 22, 3) := by decide +kernel
theorem dX7_force_26 : decode cX7_force 26 = .ok (.iload_n 1, 1) := by decide +kernel
theorem dX7_force_27 : decode cX7_force 27 = .ok (.invokevirtual 163, 3) := by decide +kernel
theorem dX7_force_30 : decode cX7_force 30 = .ok (.ireturn, 1) := by decide +kernel
set_option maxRecDepth 20000 in
theorem ggX7_ahead_X3_isThere : GoodIn wsX7_ahead wsX3_isThere := goodIn_r _ [10, 11, 71, 72, 73, 74, 75, 76, 77, 78, 79] (by decide +kernel) (by decide +kernel)
set_option maxRecDepth 20000 in
theorem gX7_ahead_X3_isThere : GoodIn wsX7_ahead (wsV RX7 144 RX3 yX3_isThere wsX3_isThere) := goodIn_app (goodIn_of _ (by decide +kernel)) ggX7_ahead_X3_isThere
set_option maxRecDepth 20000 in
theorem ggX7_ahead_X7_isOut : GoodIn wsX7_ahead wsX7_isOut := goodIn_r _ [15] (by decide +kernel) (by decide +kernel)
set_option maxRecDepth 20000 in
theorem gX7_ahead_X7_isOut : GoodIn wsX7_ahead (va_wsS RX7 72 yX7_isOut wsX7_isOut) := goodIn_app (goodIn_of _ (by decide +kernel)) ggX7_ahead_X7_isOut
set_option maxRecDepth 20000 in
theorem ggX7_ahead_X2_be : GoodIn wsX7_ahead wsX2_be := goodIn_r _ [20, 21, 22, 23, 24, 80, 81, 82, 83] (by decide +kernel) (by decide +kernel)
set_option maxRecDepth 20000 in
theorem gX7_ahead_X2_be : GoodIn wsX7_ahead (wsV RX7 189 RX2 yX2_be wsX2_be) := goodIn_app (goodIn_of _ (by decide +kernel)) ggX7_ahead_X2_be
set_option maxRecDepth 20000 in
theorem ggX7_ahead_X2_pass : GoodIn wsX7_ahead wsX2_pass := goodIn_r _ [28, 24, 21, 22, 29, 30, 31, 23, 32, 33, 34, 35, 19, 36, 37, 38, 39, 40, 41, 42, 43, 44, 45, 46, 47, 48, 49, 50, 51, 52, 53, 54, 55, 13, 14, 15, 80, 81, 82, 83, 71, 72, 73, 74, 75, 76, 77, 78, 79] (by decide +kernel) (by decide +kernel)
set_option maxRecDepth 20000 in
theorem gX7_ahead_X2_pass : GoodIn wsX7_ahead (wsV RX7 166 RX2 yX2_pass wsX2_pass) := goodIn_app (goodIn_of _ (by decide +kernel)) ggX7_ahead_X2_pass
set_option maxRecDepth 20000 in
theorem ggX7_ahead_X2_tell : GoodIn wsX7_ahead wsX2_tell := goodIn_r _ [59, 21, 22, 23, 24, 80, 81, 82, 83] (by decide +kernel) (by decide +kernel)
set_option maxRecDepth 20000 in
theorem gX7_ahead_X2_tell : GoodIn wsX7_ahead (wsV RX7 186 RX2 yX2_tell wsX2_tell) := goodIn_app (goodIn_of _ (by decide +kernel)) ggX7_ahead_X2_tell
theorem dX7_ahead_0 : decode cX7_ahead 0 = .ok (.aload_n 0, 1) := by decide +kernel
theorem dX7_ahead_1 : decode cX7_ahead 1 = .ok (.getfield 22, 3) := by decide +kernel
theorem dX7_ahead_4 : decode cX7_ahead 4 = .ok (.invokevirtual 144, 3) := by decide +kernel
theorem dX7_ahead_7 : decode cX7_ahead 7 = .ok (.ifCond .ne 6, 3) := by decide +kernel
theorem dX7_ahead_10 : decode cX7_ahead 10 = .ok (.ldc 140, 2) := by decide +kernel
theorem dX7_ahead_12 : decode cX7_ahead 12 = .ok (.ireturn, 1) := by decide +kernel
theorem dX7_ahead_13 : decode cX7_ahead 13 = .ok (.iload_n 1, 1) := by decide +kernel
theorem dX7_ahead_14 : decode cX7_ahead 14 = .ok (.iconst 0, 1) := by decide +kernel
theorem dX7_ahead_15 : decode cX7_ahead 15 = .ok (.bipush 40, 2) := by decide +kernel
theorem dX7_ahead_17 : decode cX7_ahead 17 = .ok (.invokestatic 72, 3) := by decide +kernel
theorem dX7_ahead_20 : decode cX7_ahead 20 = .ok (.ifCond .ne 12, 3) := by decide +kernel
theorem dX7_ahead_23 : decode cX7_ahead 23 = .ok (.iload_n 2, 1) := by decide +kernel
theorem dX7_ahead_24 : decode cX7_ahead 24 = .ok (.iconst 0, 1) := by decide +kernel
theorem dX7_ahead_25 : decode cX7_ahead 25 = .ok (.iconst 3, 1) := by decide +kernel
theorem dX7_ahead_26 : decode cX7_ahead 26 = .ok (.invokestatic 72, 3) := by decide +kernel
theorem dX7_ahead_29 : decode cX7_ahead 29 = .ok (.ifCond .eq 6, 3) := by decide +kernel
theorem dX7_ahead_32 : decode cX7_ahead 32 = .ok (.ldc 76, 2) := by decide +kernel
theorem dX7_ahead_34 : decode cX7_ahead 34 = .ok (.ireturn, 1) := by decide +kernel
theorem dX7_ahead_35 : decode cX7_ahead 35 = .ok (.aload_n 0, 1) := by decide +kernel
theorem dX7_ahead_36 : decode cX7_ahead 36 = .ok (.getfield 60, 3) := by decide +kernel
theorem dX7_ahead_39 : decode cX7_ahead 39 = .ok (.aload_n 0, 1) := by decide +kernel
theorem dX7_ahead_40 : decode cX7_ahead 40 = .ok (.getfield 22, 3) := by decide +kernel
theorem dX7_ahead_43 : decode cX7_ahead 43 = .ok (.getfield 147, 3) := by decide +kernel
theorem dX7_ahead_46 : decode cX7_ahead 46 = .ok (.invokevirtual 189, 3) := by decide +kernel
theorem dX7_ahead_49 : decode cX7_ahead 49 = .ok (.iconst 0, 1) := by decide +kernel
theorem dX7_ahead_50 : decode cX7_ahead 50 = .ok (.istore_n 3, 1) := by decide +kernel
theorem dX7_ahead_51 : decode cX7_ahead 51 = .ok (.iload_n 3, 1) := by decide +kernel
theorem dX7_ahead_52 : decode cX7_ahead 52 = .ok (.iload_n 1, 1) := by decide +kernel
theorem dX7_ahead_53 : decode cX7_ahead 53 = .ok (.if_icmp .ge 22, 3) := by decide +kernel
theorem dX7_ahead_56 : decode cX7_ahead 56 = .ok (.aload_n 0, 1) := by decide +kernel
theorem dX7_ahead_57 : decode cX7_ahead 57 = .ok (.getfield 60, 3) := by decide +kernel
theorem dX7_ahead_60 : decode cX7_ahead 60 = .ok (.aload_n 0, 1) := by decide +kernel
theorem dX7_ahead_61 : decode cX7_ahead 61 = .ok (.getfield 22, 3) := by decide +kernel
theorem dX7_ahead_64 : decode cX7_ahead 64 = .ok (.iconst 0, 1) := by decide +kernel
theorem dX7_ahead_65 : decode cX7_ahead 65 = .ok (.iconst 0, 1) := by decide +kernel
theorem dX7_ahead_66 : decode cX7_ahead 66 = .ok (.invokevirtual 166, 3) := by decide +kernel
theorem dX7_ahead_69 : decode cX7_ahead 69 = .ok (.iinc 3 1, 3) := by decide +kernel
theorem dX7_ahead_72 : decode cX7_ahead 72 = .ok (.goto (-21), 3) := by decide +kernel
theorem dX7_ahead_75 : decode cX7_ahead 75 = .ok (.aload_n 0, 1) := by decide +kernel
theorem dX7_ahead_76 : decode cX7_ahead 76 = .ok (.getfield 60, 3) := by decide +kernel
theorem dX7_ahead_79 : decode cX7_ahead 79 = .ok (.iload_n 2, 1) := by decide +kernel
theorem dX7_ahead_80 : decode cX7_ahead 80 = .ok (.invokevirtual 186, 3) := by decide +kernel
theorem dX7_ahead_83 : decode cX7_ahead 83 = .ok (.ireturn, 1) := by decide +kernel
set_option maxRecDepth 20000 in
theorem ggX7_fewest_X7_leastCost : GoodIn wsX7_fewest wsX7_leastCost := goodIn_r _ [5, 6, 7, 8, 9, 10, 11, 12, 13, 14, 15, 16, 17, 18, 19, 20, 4, 21, 22, 23, 24, 25, 26, 27, 28, 29, 30, 31, 32, 33, 34, 35, 36, 37, 38, 39, 40, 41, 42, 43, 44, 45, 46, 47, 48, 49, 50, 51, 52, 53, 54, 55, 56, 57, 58, 59, 60, 61, 62, 63, 64, 65, 66, 67, 68, 69, 70, 71, 72, 73, 74, 75, 76, 77, 78, 79, 80, 81, 82, 83, 84, 85, 86, 87, 88, 89, 90, 91, 92, 93, 94, 95, 96, 97, 98, 99, 100, 101, 102, 103, 104, 105, 106, 107, 108, 109, 110, 111, 112, 113, 114, 115, 116, 117, 118, 119, 120, 121, 122, 123, 124, 125, 126, 127, 128, 129, 130, 131, 132, 133, 134, 135, 136, 137, 138, 139, 140, 141, 142, 143, 144] (by decide +kernel) (by decide +kernel)
set_option maxRecDepth 20000 in
theorem gX7_fewest_X7_leastCost : GoodIn wsX7_fewest (wsV RX7 192 RX7 yX7_leastCost wsX7_leastCost) := goodIn_app (goodIn_of _ (by decide +kernel)) ggX7_fewest_X7_leastCost
theorem dX7_fewest_0 : decode cX7_fewest 0 = .ok (.aload_n 0, 1) := by decide +kernel
theorem dX7_fewest_1 : decode cX7_fewest 1 = .ok (.iload_n 1, 1) := by decide +kernel
theorem dX7_fewest_2 : decode cX7_fewest 2 = .ok (.iconst 1, 1) := by decide +kernel
theorem dX7_fewest_3 : decode cX7_fewest 3 = .ok (.iconst 0, 1) := by decide +kernel
theorem dX7_fewest_4 : decode cX7_fewest 4 = .ok (.invokevirtual 192, 3) := by decide +kernel
theorem dX7_fewest_7 : decode cX7_fewest 7 = .ok (.ireturn, 1) := by decide +kernel
set_option maxRecDepth 20000 in
theorem ggX7_soonest_X7_leastCost : GoodIn wsX7_soonest wsX7_leastCost := goodIn_r _ [5, 6, 7, 8, 9, 10, 11, 12, 13, 14, 15, 16, 17, 18, 19, 20, 4, 21, 22, 23, 24, 25, 26, 27, 28, 29, 30, 31, 32, 33, 34, 35, 36, 37, 38, 39, 40, 41, 42, 43, 44, 45, 46, 47, 48, 49, 50, 51, 52, 53, 54, 55, 56, 57, 58, 59, 60, 61, 62, 63, 64, 65, 66, 67, 68, 69, 70, 71, 72, 73, 74, 75, 76, 77, 78, 79, 80, 81, 82, 83, 84, 85, 86, 87, 88, 89, 90, 91, 92, 93, 94, 95, 96, 97, 98, 99, 100, 101, 102, 103, 104, 105, 106, 107, 108, 109, 110, 111, 112, 113, 114, 115, 116, 117, 118, 119, 120, 121, 122, 123, 124, 125, 126, 127, 128, 129, 130, 131, 132, 133, 134, 135, 136, 137, 138, 139, 140, 141, 142, 143, 144] (by decide +kernel) (by decide +kernel)
set_option maxRecDepth 20000 in
theorem gX7_soonest_X7_leastCost : GoodIn wsX7_soonest (wsV RX7 192 RX7 yX7_leastCost wsX7_leastCost) := goodIn_app (goodIn_of _ (by decide +kernel)) ggX7_soonest_X7_leastCost
theorem dX7_soonest_0 : decode cX7_soonest 0 = .ok (.aload_n 0, 1) := by decide +kernel
theorem dX7_soonest_1 : decode cX7_soonest 1 = .ok (.iload_n 1, 1) := by decide +kernel
theorem dX7_soonest_2 : decode cX7_soonest 2 = .ok (.iconst 0, 1) := by decide +kernel
theorem dX7_soonest_3 : decode cX7_soonest 3 = .ok (.iconst 1, 1) := by decide +kernel
theorem dX7_soonest_4 : decode cX7_soonest 4 = .ok (.invokevirtual 192, 3) := by decide +kernel
theorem dX7_soonest_7 : decode cX7_soonest 7 = .ok (.ireturn, 1) := by decide +kernel
set_option maxRecDepth 20000 in
theorem ggX7_heldFrom_X3_isThere : GoodIn wsX7_heldFrom wsX3_isThere := goodIn_r _ [13, 14, 125, 126, 127, 128, 129, 130, 131, 132, 133] (by decide +kernel) (by decide +kernel)
set_option maxRecDepth 20000 in
theorem gX7_heldFrom_X3_isThere : GoodIn wsX7_heldFrom (wsV RX7 144 RX3 yX3_isThere wsX3_isThere) := goodIn_app (goodIn_of _ (by decide +kernel)) ggX7_heldFrom_X3_isThere
set_option maxRecDepth 20000 in
theorem ggX7_heldFrom_X2_stand : GoodIn wsX7_heldFrom wsX2_stand := goodIn_r _ [19, 20, 21, 22, 23, 134, 135, 136, 137] (by decide +kernel) (by decide +kernel)
set_option maxRecDepth 20000 in
theorem gX7_heldFrom_X2_stand : GoodIn wsX7_heldFrom (wsV RX7 179 RX2 yX2_stand wsX2_stand) := goodIn_app (goodIn_of _ (by decide +kernel)) ggX7_heldFrom_X2_stand
set_option maxRecDepth 20000 in
theorem ggX7_heldFrom_X7_canBeHome : GoodIn wsX7_heldFrom wsX7_canBeHome := goodIn_r _ [28, 29, 1, 30, 31, 32, 33, 34, 35, 36, 37, 38, 39, 40, 41, 42, 43, 44, 45, 46, 47, 48, 49, 50, 51, 52, 53, 54, 55, 56, 57, 58, 59, 60, 61, 62, 63, 64, 27, 65, 66, 67, 68, 69, 70, 71, 72, 16, 17, 18, 19, 20, 21, 22, 23, 73, 74, 75, 12, 76, 77, 78, 79, 80, 81, 82, 83, 84, 85, 86, 87, 88, 89, 90, 91, 92, 93, 94, 95, 96, 97, 98, 99, 100, 101, 102, 103, 104, 105, 106, 107, 108, 109, 110, 111, 112, 113, 114, 115, 116, 117, 118, 119, 120, 121, 122, 123, 124, 134, 135, 136, 137, 138, 139, 140, 141, 142, 125, 126, 127, 128, 129, 130, 131, 132, 133] (by decide +kernel) (by decide +kernel)
set_option maxRecDepth 20000 in
theorem gX7_heldFrom_X7_canBeHome : GoodIn wsX7_heldFrom (wsV RX7 200 RX7 yX7_canBeHome wsX7_canBeHome) := goodIn_app (goodIn_of _ (by decide +kernel)) ggX7_heldFrom_X7_canBeHome
theorem dX7_heldFrom_0 : decode cX7_heldFrom 0 = .ok (.aload_n 0, 1) := by decide +kernel
theorem dX7_heldFrom_1 : decode cX7_heldFrom 1 = .ok (.getfield 22, 3) := by decide +kernel
theorem dX7_heldFrom_4 : decode cX7_heldFrom 4 = .ok (.invokevirtual 144, 3) := by decide +kernel
theorem dX7_heldFrom_7 : decode cX7_heldFrom 7 = .ok (.ifCond .ne 6, 3) := by decide +kernel
theorem dX7_heldFrom_10 : decode cX7_heldFrom 10 = .ok (.ldc 140, 2) := by decide +kernel
theorem dX7_heldFrom_12 : decode cX7_heldFrom 12 = .ok (.ireturn, 1) := by decide +kernel
theorem dX7_heldFrom_13 : decode cX7_heldFrom 13 = .ok (.aload_n 0, 1) := by decide +kernel
theorem dX7_heldFrom_14 : decode cX7_heldFrom 14 = .ok (.getfield 22, 3) := by decide +kernel
theorem dX7_heldFrom_17 : decode cX7_heldFrom 17 = .ok (.getfield 147, 3) := by decide +kernel
theorem dX7_heldFrom_20 : decode cX7_heldFrom 20 = .ok (.getfield 150, 3) := by decide +kernel
theorem dX7_heldFrom_23 : decode cX7_heldFrom 23 = .ok (.ifCond .eq 6, 3) := by decide +kernel
theorem dX7_heldFrom_26 : decode cX7_heldFrom 26 = .ok (.ldc 196, 2) := by decide +kernel
theorem dX7_heldFrom_28 : decode cX7_heldFrom 28 = .ok (.ireturn, 1) := by decide +kernel
theorem dX7_heldFrom_29 : decode cX7_heldFrom 29 = .ok (.iconst 1, 1) := by decide +kernel
theorem dX7_heldFrom_30 : decode cX7_heldFrom 30 = .ok (.istore_n 1, 1) := by decide +kernel
theorem dX7_heldFrom_31 : decode cX7_heldFrom 31 = .ok (.iload_n 1, 1) := by decide +kernel
theorem dX7_heldFrom_32 : decode cX7_heldFrom 32 = .ok (.bipush 9, 2) := by decide +kernel
theorem dX7_heldFrom_34 : decode cX7_heldFrom 34 = .ok (.if_icmp .gt 50, 3) := by decide +kernel
theorem dX7_heldFrom_37 : decode cX7_heldFrom 37 = .ok (.aload_n 0, 1) := by decide +kernel
theorem dX7_heldFrom_38 : decode cX7_heldFrom 38 = .ok (.getfield 60, 3) := by decide +kernel
theorem dX7_heldFrom_41 : decode cX7_heldFrom 41 = .ok (.aload_n 0, 1) := by decide +kernel
theorem dX7_heldFrom_42 : decode cX7_heldFrom 42 = .ok (.getfield 22, 3) := by decide +kernel
theorem dX7_heldFrom_45 : decode cX7_heldFrom 45 = .ok (.getfield 147, 3) := by decide +kernel
theorem dX7_heldFrom_48 : decode cX7_heldFrom 48 = .ok (.getfield 170, 3) := by decide +kernel
theorem dX7_heldFrom_51 : decode cX7_heldFrom 51 = .ok (.iload_n 1, 1) := by decide +kernel
theorem dX7_heldFrom_52 : decode cX7_heldFrom 52 = .ok (.aload_n 0, 1) := by decide +kernel
theorem dX7_heldFrom_53 : decode cX7_heldFrom 53 = .ok (.getfield 22, 3) := by decide +kernel
theorem dX7_heldFrom_56 : decode cX7_heldFrom 56 = .ok (.getfield 147, 3) := by decide +kernel
theorem dX7_heldFrom_59 : decode cX7_heldFrom 59 = .ok (.getfield 197, 3) := by decide +kernel
theorem dX7_heldFrom_62 : decode cX7_heldFrom 62 = .ok (.invokevirtual 179, 3) := by decide +kernel
theorem dX7_heldFrom_65 : decode cX7_heldFrom 65 = .ok (.aload_n 0, 1) := by decide +kernel
theorem dX7_heldFrom_66 : decode cX7_heldFrom 66 = .ok (.aload_n 0, 1) := by decide +kernel
theorem dX7_heldFrom_67 : decode cX7_heldFrom 67 = .ok (.getfield 60, 3) := by decide +kernel
theorem dX7_heldFrom_70 : decode cX7_heldFrom 70 = .ok (.invokevirtual 200, 3) := by decide +kernel
theorem dX7_heldFrom_73 : decode cX7_heldFrom 73 = .ok (.ifCond .eq 5, 3) := by decide +kernel
theorem dX7_heldFrom_76 : decode cX7_heldFrom 76 = .ok (.iload_n 1, 1) := by decide +kernel
theorem dX7_heldFrom_77 : decode cX7_heldFrom 77 = .ok (.ireturn, 1) := by decide +kernel
theorem dX7_heldFrom_78 : decode cX7_heldFrom 78 = .ok (.iinc 1 1, 3) := by decide +kernel
theorem dX7_heldFrom_81 : decode cX7_heldFrom 81 = .ok (.goto (-50), 3) := by decide +kernel
theorem dX7_heldFrom_84 : decode cX7_heldFrom 84 = .ok (.ldc 196, 2) := by decide +kernel
theorem dX7_heldFrom_86 : decode cX7_heldFrom 86 = .ok (.ireturn, 1) := by decide +kernel
set_option maxRecDepth 20000 in
theorem ggX7_righted_X3_isThere : GoodIn wsX7_righted wsX3_isThere := goodIn_r _ [15, 16, 127, 128, 129, 130, 131, 132, 133, 134, 135] (by decide +kernel) (by decide +kernel)
set_option maxRecDepth 20000 in
theorem gX7_righted_X3_isThere : GoodIn wsX7_righted (wsV RX7 144 RX3 yX3_isThere wsX3_isThere) := goodIn_app (goodIn_of _ (by decide +kernel)) ggX7_righted_X3_isThere
set_option maxRecDepth 20000 in
theorem ggX7_righted_X2_stand : GoodIn wsX7_righted wsX2_stand := goodIn_r _ [21, 22, 23, 24, 25, 136, 137, 138, 139] (by decide +kernel) (by decide +kernel)
set_option maxRecDepth 20000 in
theorem gX7_righted_X2_stand : GoodIn wsX7_righted (wsV RX7 179 RX2 yX2_stand wsX2_stand) := goodIn_app (goodIn_of _ (by decide +kernel)) ggX7_righted_X2_stand
set_option maxRecDepth 20000 in
theorem ggX7_righted_X7_canBeHome : GoodIn wsX7_righted wsX7_canBeHome := goodIn_r _ [30, 31, 1, 32, 33, 34, 35, 36, 37, 38, 39, 40, 41, 42, 43, 44, 45, 46, 47, 48, 49, 50, 51, 52, 53, 54, 55, 56, 57, 58, 59, 60, 61, 62, 63, 64, 65, 66, 29, 67, 68, 69, 70, 71, 72, 73, 74, 18, 19, 20, 21, 22, 23, 24, 25, 75, 76, 77, 14, 78, 79, 80, 81, 82, 83, 84, 85, 86, 87, 88, 89, 90, 91, 92, 93, 94, 95, 96, 97, 98, 99, 100, 101, 102, 103, 104, 105, 106, 107, 108, 109, 110, 111, 112, 113, 114, 115, 116, 117, 118, 119, 120, 121, 122, 123, 124, 125, 126, 136, 137, 138, 139, 140, 141, 142, 143, 144, 127, 128, 129, 130, 131, 132, 133, 134, 135] (by decide +kernel) (by decide +kernel)
set_option maxRecDepth 20000 in
theorem gX7_righted_X7_canBeHome : GoodIn wsX7_righted (wsV RX7 200 RX7 yX7_canBeHome wsX7_canBeHome) := goodIn_app (goodIn_of _ (by decide +kernel)) ggX7_righted_X7_canBeHome
theorem dX7_righted_0 : decode cX7_righted 0 = .ok (.aload_n 0, 1) := by decide +kernel
theorem dX7_righted_1 : decode cX7_righted 1 = .ok (.getfield 22, 3) := by decide +kernel
theorem dX7_righted_4 : decode cX7_righted 4 = .ok (.invokevirtual 144, 3) := by decide +kernel
theorem dX7_righted_7 : decode cX7_righted 7 = .ok (.ifCond .ne 6, 3) := by decide +kernel
theorem dX7_righted_10 : decode cX7_righted 10 = .ok (.ldc 140, 2) := by decide +kernel
theorem dX7_righted_12 : decode cX7_righted 12 = .ok (.ireturn, 1) := by decide +kernel
theorem dX7_righted_13 : decode cX7_righted 13 = .ok (.aload_n 0, 1) := by decide +kernel
theorem dX7_righted_14 : decode cX7_righted 14 = .ok (.getfield 22, 3) := by decide +kernel
theorem dX7_righted_17 : decode cX7_righted 17 = .ok (.getfield 134, 3) := by decide +kernel
theorem dX7_righted_20 : decode cX7_righted 20 = .ok (.ifCond .eq 16, 3) := by decide +kernel
theorem dX7_righted_23 : decode cX7_righted 23 = .ok (.aload_n 0, 1) := by decide +kernel
theorem dX7_righted_24 : decode cX7_righted 24 = .ok (.getfield 22, 3) := by decide +kernel
theorem dX7_righted_27 : decode cX7_righted 27 = .ok (.getfield 147, 3) := by decide +kernel
theorem dX7_righted_30 : decode cX7_righted 30 = .ok (.getfield 150, 3) := by decide +kernel
theorem dX7_righted_33 : decode cX7_righted 33 = .ok (.ifCond .eq 6, 3) := by decide +kernel
theorem dX7_righted_36 : decode cX7_righted 36 = .ok (.ldc 196, 2) := by decide +kernel
theorem dX7_righted_38 : decode cX7_righted 38 = .ok (.ireturn, 1) := by decide +kernel
theorem dX7_righted_39 : decode cX7_righted 39 = .ok (.iconst 0, 1) := by decide +kernel
theorem dX7_righted_40 : decode cX7_righted 40 = .ok (.istore_n 1, 1) := by decide +kernel
theorem dX7_righted_41 : decode cX7_righted 41 = .ok (.iconst 0, 1) := by decide +kernel
theorem dX7_righted_42 : decode cX7_righted 42 = .ok (.istore_n 2, 1) := by decide +kernel
theorem dX7_righted_43 : decode cX7_righted 43 = .ok (.iload_n 2, 1) := by decide +kernel
theorem dX7_righted_44 : decode cX7_righted 44 = .ok (.aload_n 0, 1) := by decide +kernel
theorem dX7_righted_45 : decode cX7_righted 45 = .ok (.getfield 22, 3) := by decide +kernel
theorem dX7_righted_48 : decode cX7_righted 48 = .ok (.getfield 176, 3) := by decide +kernel
theorem dX7_righted_51 : decode cX7_righted 51 = .ok (.if_icmp .gt 51, 3) := by decide +kernel
theorem dX7_righted_54 : decode cX7_righted 54 = .ok (.aload_n 0, 1) := by decide +kernel
theorem dX7_righted_55 : decode cX7_righted 55 = .ok (.getfield 60, 3) := by decide +kernel
theorem dX7_righted_58 : decode cX7_righted 58 = .ok (.aload_n 0, 1) := by decide +kernel
theorem dX7_righted_59 : decode cX7_righted 59 = .ok (.getfield 22, 3) := by decide +kernel
theorem dX7_righted_62 : decode cX7_righted 62 = .ok (.getfield 147, 3) := by decide +kernel
theorem dX7_righted_65 : decode cX7_righted 65 = .ok (.getfield 170, 3) := by decide +kernel
theorem dX7_righted_68 : decode cX7_righted 68 = .ok (.aload_n 0, 1) := by decide +kernel
theorem dX7_righted_69 : decode cX7_righted 69 = .ok (.getfield 22, 3) := by decide +kernel
theorem dX7_righted_72 : decode cX7_righted 72 = .ok (.getfield 147, 3) := by decide +kernel
theorem dX7_righted_75 : decode cX7_righted 75 = .ok (.getfield 204, 3) := by decide +kernel
theorem dX7_righted_78 : decode cX7_righted 78 = .ok (.iload_n 2, 1) := by decide +kernel
theorem dX7_righted_79 : decode cX7_righted 79 = .ok (.invokevirtual 179, 3) := by decide +kernel
theorem dX7_righted_82 : decode cX7_righted 82 = .ok (.aload_n 0, 1) := by decide +kernel
theorem dX7_righted_83 : decode cX7_righted 83 = .ok (.aload_n 0, 1) := by decide +kernel
theorem dX7_righted_84 : decode cX7_righted 84 = .ok (.getfield 60, 3) := by decide +kernel
theorem dX7_righted_87 : decode cX7_righted 87 = .ok (.invokevirtual 200, 3) := by decide +kernel
theorem dX7_righted_90 : decode cX7_righted 90 = .ok (.ifCond .eq 6, 3) := by decide +kernel
theorem dX7_righted_93 : decode cX7_righted 93 = .ok (.iinc 1 1, 3) := by decide +kernel
theorem dX7_righted_96 : decode cX7_righted 96 = .ok (.iinc 2 1, 3) := by decide +kernel
theorem dX7_righted_99 : decode cX7_righted 99 = .ok (.goto (-56), 3) := by decide +kernel
theorem dX7_righted_102 : decode cX7_righted 102 = .ok (.iload_n 1, 1) := by decide +kernel
theorem dX7_righted_103 : decode cX7_righted 103 = .ok (.ireturn, 1) := by decide +kernel
set_option maxRecDepth 20000 in
theorem ggX7_plan_X3_isThere : GoodIn wsX7_plan wsX3_isThere := goodIn_r _ [15, 16, 104, 105, 106, 107, 108, 109, 110, 111, 112] (by decide +kernel) (by decide +kernel)
set_option maxRecDepth 20000 in
theorem gX7_plan_X3_isThere : GoodIn wsX7_plan (wsV RX7 144 RX3 yX3_isThere wsX3_isThere) := goodIn_app (goodIn_of _ (by decide +kernel)) ggX7_plan_X3_isThere
set_option maxRecDepth 20000 in
theorem ggX7_plan_X7_isOut : GoodIn wsX7_plan wsX7_isOut := goodIn_r _ [20] (by decide +kernel) (by decide +kernel)
set_option maxRecDepth 20000 in
theorem gX7_plan_X7_isOut : GoodIn wsX7_plan (va_wsS RX7 72 yX7_isOut wsX7_isOut) := goodIn_app (goodIn_of _ (by decide +kernel)) ggX7_plan_X7_isOut
set_option maxRecDepth 20000 in
theorem ggX7_plan_X5_findingAt : GoodIn wsX7_plan wsX5_findingAt := goodIn_r _ [25, 26, 27, 28, 29, 24, 30, 31, 117, 118, 119] (by decide +kernel) (by decide +kernel)
set_option maxRecDepth 20000 in
theorem gX7_plan_X5_findingAt : GoodIn wsX7_plan (wsV RX7 85 RX5 yX5_findingAt wsX5_findingAt) := goodIn_app (goodIn_of _ (by decide +kernel)) ggX7_plan_X5_findingAt
set_option maxRecDepth 20000 in
theorem ggX7_plan_X7_found : GoodIn wsX7_plan wsX7_found := goodIn_r _ [35, 6, 36, 93, 94, 95, 96, 97, 98, 99, 100, 101, 102, 103] (by decide +kernel) (by decide +kernel)
set_option maxRecDepth 20000 in
theorem gX7_plan_X7_found : GoodIn wsX7_plan (wsV RX7 77 RX7 yX7_found wsX7_found) := goodIn_app (goodIn_of _ (by decide +kernel)) ggX7_plan_X7_found
set_option maxRecDepth 20000 in
theorem ggX7_plan_X7_tapsIn : GoodIn wsX7_plan wsX7_tapsIn := goodIn_r _ [40, 10, 1, 41, 5, 17, 18, 19, 20, 117, 118, 119, 93, 94, 95, 96, 97, 98, 99, 100, 101, 102, 103, 104, 105, 106, 107, 108, 109, 110, 111, 112] (by decide +kernel) (by decide +kernel)
set_option maxRecDepth 20000 in
theorem gX7_plan_X7_tapsIn : GoodIn wsX7_plan (wsV RX7 207 RX7 yX7_tapsIn wsX7_tapsIn) := goodIn_app (goodIn_of _ (by decide +kernel)) ggX7_plan_X7_tapsIn
set_option maxRecDepth 20000 in
theorem ggX7_plan_X2_be : GoodIn wsX7_plan wsX2_be := goodIn_r _ [46, 47, 48, 49, 50, 113, 114, 115, 116] (by decide +kernel) (by decide +kernel)
set_option maxRecDepth 20000 in
theorem gX7_plan_X2_be : GoodIn wsX7_plan (wsV RX7 189 RX2 yX2_be wsX2_be) := goodIn_app (goodIn_of _ (by decide +kernel)) ggX7_plan_X2_be
set_option maxRecDepth 20000 in
theorem ggX7_plan_X3_kindAt : GoodIn wsX7_plan wsX3_kindAt := goodIn_r _ [54, 55, 56, 18, 19, 20, 104, 105, 106, 107, 108, 109, 110, 111, 112] (by decide +kernel) (by decide +kernel)
set_option maxRecDepth 20000 in
theorem gX7_plan_X3_kindAt : GoodIn wsX7_plan (wsV RX7 160 RX3 yX3_kindAt wsX3_kindAt) := goodIn_app (goodIn_of _ (by decide +kernel)) ggX7_plan_X3_kindAt
set_option maxRecDepth 20000 in
theorem ggX7_plan_X3_forceAt : GoodIn wsX7_plan wsX3_forceAt := goodIn_r _ [60, 55, 61, 18, 19, 20, 104, 105, 106, 107, 108, 109, 110, 111, 112] (by decide +kernel) (by decide +kernel)
set_option maxRecDepth 20000 in
theorem gX7_plan_X3_forceAt : GoodIn wsX7_plan (wsV RX7 163 RX3 yX3_forceAt wsX3_forceAt) := goodIn_app (goodIn_of _ (by decide +kernel)) ggX7_plan_X3_forceAt
set_option maxRecDepth 20000 in
theorem ggX7_plan_X2_pass : GoodIn wsX7_plan wsX2_pass := goodIn_r _ [65, 50, 47, 48, 66, 67, 68, 49, 69, 70, 71, 72, 45, 73, 74, 75, 76, 77, 78, 79, 80, 81, 82, 83, 84, 85, 86, 87, 88, 89, 90, 91, 92, 18, 19, 20, 113, 114, 115, 116, 104, 105, 106, 107, 108, 109, 110, 111, 112] (by decide +kernel) (by decide +kernel)
set_option maxRecDepth 20000 in
theorem gX7_plan_X2_pass : GoodIn wsX7_plan (wsV RX7 166 RX2 yX2_pass wsX2_pass) := goodIn_app (goodIn_of _ (by decide +kernel)) ggX7_plan_X2_pass
theorem dX7_plan_0 : decode cX7_plan 0 = .ok (.aload_n 0, 1) := by decide +kernel
theorem dX7_plan_1 : decode cX7_plan 1 = .ok (.getfield 22, 3) := by decide +kernel
theorem dX7_plan_4 : decode cX7_plan 4 = .ok (.invokevirtual 144, 3) := by decide +kernel
theorem dX7_plan_7 : decode cX7_plan 7 = .ok (.ifCond .ne 6, 3) := by decide +kernel
theorem dX7_plan_10 : decode cX7_plan 10 = .ok (.ldc 140, 2) := by decide +kernel
theorem dX7_plan_12 : decode cX7_plan 12 = .ok (.ireturn, 1) := by decide +kernel
theorem dX7_plan_13 : decode cX7_plan 13 = .ok (.iload_n 1, 1) := by decide +kernel
theorem dX7_plan_14 : decode cX7_plan 14 = .ok (.iconst 0, 1) := by decide +kernel
theorem dX7_plan_15 : decode cX7_plan 15 = .ok (.bipush 7, 2) := by decide +kernel
theorem dX7_plan_17 : decode cX7_plan 17 = .ok (.invokestatic 72, 3) := by decide +kernel
theorem dX7_plan_20 : decode cX7_plan 20 = .ok (.ifCond .ne 23, 3) := by decide +kernel
theorem dX7_plan_23 : decode cX7_plan 23 = .ok (.iload_n 3, 1) := by decide +kernel
theorem dX7_plan_24 : decode cX7_plan 24 = .ok (.iconst 0, 1) := by decide +kernel
theorem dX7_plan_25 : decode cX7_plan 25 = .ok (.bipush 24, 2) := by decide +kernel
theorem dX7_plan_27 : decode cX7_plan 27 = .ok (.invokestatic 72, 3) := by decide +kernel
theorem dX7_plan_30 : decode cX7_plan 30 = .ok (.ifCond .ne 13, 3) := by decide +kernel
theorem dX7_plan_33 : decode cX7_plan 33 = .ok (.iload 4, 2) := by decide +kernel
theorem dX7_plan_35 : decode cX7_plan 35 = .ok (.iconst 0, 1) := by decide +kernel
theorem dX7_plan_36 : decode cX7_plan 36 = .ok (.iconst 1, 1) := by decide +kernel
theorem dX7_plan_37 : decode cX7_plan 37 = .ok (.invokestatic 72, 3) := by decide +kernel
theorem dX7_plan_40 : decode cX7_plan 40 = .ok (.ifCond .eq 6, 3) := by decide +kernel
theorem dX7_plan_43 : decode cX7_plan 43 = .ok (.ldc 76, 2) := by decide +kernel
theorem dX7_plan_45 : decode cX7_plan 45 = .ok (.ireturn, 1) := by decide +kernel
theorem dX7_plan_46 : decode cX7_plan 46 = .ok (.aload_n 0, 1) := by decide +kernel
theorem dX7_plan_47 : decode cX7_plan 47 = .ok (.getfield 11, 3) := by decide +kernel
theorem dX7_plan_50 : decode cX7_plan 50 = .ok (.iload_n 1, 1) := by decide +kernel
theorem dX7_plan_51 : decode cX7_plan 51 = .ok (.aaload, 1) := by decide +kernel
theorem dX7_plan_52 : decode cX7_plan 52 = .ok (.astore 5, 2) := by decide +kernel
theorem dX7_plan_54 : decode cX7_plan 54 = .ok (.aload 5, 2) := by decide +kernel
theorem dX7_plan_56 : decode cX7_plan 56 = .ok (.iload_n 2, 1) := by decide +kernel
theorem dX7_plan_57 : decode cX7_plan 57 = .ok (.iload_n 3, 1) := by decide +kernel
theorem dX7_plan_58 : decode cX7_plan 58 = .ok (.invokevirtual 85, 3) := by decide +kernel
theorem dX7_plan_61 : decode cX7_plan 61 = .ok (.istore 6, 2) := by decide +kernel
theorem dX7_plan_63 : decode cX7_plan 63 = .ok (.iload 6, 2) := by decide +kernel
theorem dX7_plan_65 : decode cX7_plan 65 = .ok (.ifCond .eq 10, 3) := by decide +kernel
theorem dX7_plan_68 : decode cX7_plan 68 = .ok (.aload_n 0, 1) := by decide +kernel
theorem dX7_plan_69 : decode cX7_plan 69 = .ok (.iload 6, 2) := by decide +kernel
theorem dX7_plan_71 : decode cX7_plan 71 = .ok (.invokevirtual 77, 3) := by decide +kernel
theorem dX7_plan_74 : decode cX7_plan 74 = .ok (.ireturn, 1) := by decide +kernel
theorem dX7_plan_75 : decode cX7_plan 75 = .ok (.aload_n 0, 1) := by decide +kernel
theorem dX7_plan_76 : decode cX7_plan 76 = .ok (.aload 5, 2) := by decide +kernel
theorem dX7_plan_78 : decode cX7_plan 78 = .ok (.iload_n 2, 1) := by decide +kernel
theorem dX7_plan_79 : decode cX7_plan 79 = .ok (.iload_n 3, 1) := by decide +kernel
theorem dX7_plan_80 : decode cX7_plan 80 = .ok (.invokevirtual 207, 3) := by decide +kernel
theorem dX7_plan_83 : decode cX7_plan 83 = .ok (.ldc 196, 2) := by decide +kernel
theorem dX7_plan_85 : decode cX7_plan 85 = .ok (.if_icmp .ne 6, 3) := by decide +kernel
theorem dX7_plan_88 : decode cX7_plan 88 = .ok (.ldc 76, 2) := by decide +kernel
theorem dX7_plan_90 : decode cX7_plan 90 = .ok (.ireturn, 1) := by decide +kernel
theorem dX7_plan_91 : decode cX7_plan 91 = .ok (.aload_n 0, 1) := by decide +kernel
theorem dX7_plan_92 : decode cX7_plan 92 = .ok (.iconst 0, 1) := by decide +kernel
theorem dX7_plan_93 : decode cX7_plan 93 = .ok (.putfield 68, 3) := by decide +kernel
theorem dX7_plan_96 : decode cX7_plan 96 = .ok (.aload_n 0, 1) := by decide +kernel
theorem dX7_plan_97 : decode cX7_plan 97 = .ok (.getfield 60, 3) := by decide +kernel
theorem dX7_plan_100 : decode cX7_plan 100 = .ok (.aload_n 0, 1) := by decide +kernel
theorem dX7_plan_101 : decode cX7_plan 101 = .ok (.getfield 22, 3) := by decide +kernel
theorem dX7_plan_104 : decode cX7_plan 104 = .ok (.getfield 147, 3) := by decide +kernel
theorem dX7_plan_107 : decode cX7_plan 107 = .ok (.invokevirtual 189, 3) := by decide +kernel
theorem dX7_plan_110 : decode cX7_plan 110 = .ok (.iconst 0, 1) := by decide +kernel
theorem dX7_plan_111 : decode cX7_plan 111 = .ok (.istore 7, 2) := by decide +kernel
theorem dX7_plan_113 : decode cX7_plan 113 = .ok (.iload 7, 2) := by decide +kernel
theorem dX7_plan_115 : decode cX7_plan 115 = .ok (.iload_n 3, 1) := by decide +kernel
theorem dX7_plan_116 : decode cX7_plan 116 = .ok (.if_icmp .ge 60, 3) := by decide +kernel
theorem dX7_plan_119 : decode cX7_plan 119 = .ok (.aload_n 0, 1) := by decide +kernel
theorem dX7_plan_120 : decode cX7_plan 120 = .ok (.getfield 60, 3) := by decide +kernel
theorem dX7_plan_123 : decode cX7_plan 123 = .ok (.getfield 150, 3) := by decide +kernel
theorem dX7_plan_126 : decode cX7_plan 126 = .ok (.ifCond .ne 50, 3) := by decide +kernel
theorem dX7_plan_129 : decode cX7_plan 129 = .ok (.aload 5, 2) := by decide +kernel
theorem dX7_plan_131 : decode cX7_plan 131 = .ok (.getfield 99, 3) := by decide +kernel
theorem dX7_plan_134 : decode cX7_plan 134 = .ok (.iload_n 2, 1) := by decide +kernel
theorem dX7_plan_135 : decode cX7_plan 135 = .ok (.iload 7, 2) := by decide +kernel
theorem dX7_plan_137 : decode cX7_plan 137 = .ok (.iadd, 1) := by decide +kernel
theorem dX7_plan_138 : decode cX7_plan 138 = .ok (.iaload, 1) := by decide +kernel
theorem dX7_plan_139 : decode cX7_plan 139 = .ok (.istore 8, 2) := by decide +kernel
theorem dX7_plan_141 : decode cX7_plan 141 = .ok (.aload_n 0, 1) := by decide +kernel
theorem dX7_plan_142 : decode cX7_plan 142 = .ok (.getfield 60, 3) := by decide +kernel
theorem dX7_plan_145 : decode cX7_plan 145 = .ok (.aload_n 0, 1) := by decide +kernel
theorem dX7_plan_146 : decode cX7_plan 146 = .ok (.getfield 22, 3) := by decide +kernel
theorem dX7_plan_149 : decode cX7_plan 149 = .ok (.aload_n 0, 1) := by decide +kernel
theorem dX7_plan_150 : decode cX7_plan 150 = .ok (.getfield 22, 3) := by decide +kernel
theorem dX7_plan_153 : decode cX7_plan 153 = .ok (.iload 8, 2) := by decide +kernel
theorem dX7_plan_155 : decode cX7_plan 155 = .ok (.invokevirtual 160, 3) := by decide +kernel
theorem dX7_plan_158 : decode cX7_plan 158 = .ok (.aload_n 0, 1) := by decide +kernel
theorem dX7_plan_159 : decode cX7_plan 159 = .ok (.getfield 22, 3) := by decide +kernel
theorem dX7_plan_162 : decode cX7_plan 162 = .ok (.iload 8, 2) := by decide +kernel
theorem dX7_plan_164 : decode cX7_plan 164 = .ok (.invokevirtual 163, 3) := by decide +kernel
theorem dX7_plan_167 : decode cX7_plan 167 = .ok (.invokevirtual 166, 3) := by decide +kernel
theorem dX7_plan_170 : decode cX7_plan 170 = .ok (.iinc 7 1, 3) := by decide +kernel
theorem dX7_plan_173 : decode cX7_plan 173 = .ok (.goto (-60), 3) := by decide +kernel
theorem dX7_plan_176 : decode cX7_plan 176 = .ok (.iload 4, 2) := by decide +kernel
theorem dX7_plan_178 : decode cX7_plan 178 = .ok (.ifCond .ne 8, 3) := by decide +kernel
theorem dX7_plan_181 : decode cX7_plan 181 = .ok (.iload 7, 2) := by decide +kernel
theorem dX7_plan_183 : decode cX7_plan 183 = .ok (.goto 10, 3) := by decide +kernel
theorem dX7_plan_186 : decode cX7_plan 186 = .ok (.aload_n 0, 1) := by decide +kernel
theorem dX7_plan_187 : decode cX7_plan 187 = .ok (.getfield 60, 3) := by decide +kernel
theorem dX7_plan_190 : decode cX7_plan 190 = .ok (.getfield 150, 3) := by decide +kernel
theorem dX7_plan_193 : decode cX7_plan 193 = .ok (.ireturn, 1) := by decide +kernel
set_option maxRecDepth 20000 in
theorem ggX7_seen_X3_isThere : GoodIn wsX7_seen wsX3_isThere := goodIn_r _ [12, 13, 103, 104, 105, 106, 107, 108, 109, 110, 111] (by decide +kernel) (by decide +kernel)
set_option maxRecDepth 20000 in
theorem gX7_seen_X3_isThere : GoodIn wsX7_seen (wsV RX7 144 RX3 yX3_isThere wsX3_isThere) := goodIn_app (goodIn_of _ (by decide +kernel)) ggX7_seen_X3_isThere
set_option maxRecDepth 20000 in
theorem ggX7_seen_X7_isOut : GoodIn wsX7_seen wsX7_isOut := goodIn_r _ [17] (by decide +kernel) (by decide +kernel)
set_option maxRecDepth 20000 in
theorem gX7_seen_X7_isOut : GoodIn wsX7_seen (va_wsS RX7 72 yX7_isOut wsX7_isOut) := goodIn_app (goodIn_of _ (by decide +kernel)) ggX7_seen_X7_isOut
set_option maxRecDepth 20000 in
theorem ggX7_seen_X5_findingAt : GoodIn wsX7_seen wsX5_findingAt := goodIn_r _ [22, 23, 24, 25, 26, 21, 27, 28, 116, 117, 118] (by decide +kernel) (by decide +kernel)
set_option maxRecDepth 20000 in
theorem gX7_seen_X5_findingAt : GoodIn wsX7_seen (wsV RX7 85 RX5 yX5_findingAt wsX5_findingAt) := goodIn_app (goodIn_of _ (by decide +kernel)) ggX7_seen_X5_findingAt
set_option maxRecDepth 20000 in
theorem ggX7_seen_X7_found : GoodIn wsX7_seen wsX7_found := goodIn_r _ [32, 7, 33, 92, 93, 94, 95, 96, 97, 98, 99, 100, 101, 102] (by decide +kernel) (by decide +kernel)
set_option maxRecDepth 20000 in
theorem gX7_seen_X7_found : GoodIn wsX7_seen (wsV RX7 77 RX7 yX7_found wsX7_found) := goodIn_app (goodIn_of _ (by decide +kernel)) ggX7_seen_X7_found
set_option maxRecDepth 20000 in
theorem ggX7_seen_X7_pacesSeen : GoodIn wsX7_seen wsX7_pacesSeen := goodIn_r _ [37, 38, 1, 4, 39, 40, 41, 42, 43, 44, 45, 46, 47, 48, 49, 50, 51, 52, 53, 54, 55, 56, 57, 58, 59, 60, 61, 62, 63, 64, 65, 66, 67, 68, 69, 70, 71, 72, 73, 74, 75, 76, 77, 78, 79, 80, 15, 16, 17, 81, 82, 83, 84, 85, 92, 93, 94, 95, 96, 97, 98, 99, 100, 101, 102, 103, 104, 105, 106, 107, 108, 109, 110, 111, 112, 113, 114, 115, 116, 117, 118] (by decide +kernel) (by decide +kernel)
set_option maxRecDepth 20000 in
theorem gX7_seen_X7_pacesSeen : GoodIn wsX7_seen (wsV RX7 211 RX7 yX7_pacesSeen wsX7_pacesSeen) := goodIn_app (goodIn_of _ (by decide +kernel)) ggX7_seen_X7_pacesSeen
set_option maxRecDepth 20000 in
theorem ggX7_seen_X7_leansSeen : GoodIn wsX7_seen wsX7_leansSeen := goodIn_r _ [89, 1, 90, 38, 4, 39, 91, 41, 42, 43, 44, 45, 46, 47, 48, 49, 50, 51, 52, 53, 54, 55, 56, 57, 58, 59, 60, 61, 62, 63, 64, 65, 66, 67, 68, 69, 70, 71, 72, 73, 74, 75, 76, 77, 78, 79, 80, 15, 16, 17, 81, 82, 83, 84, 85, 92, 93, 94, 95, 96, 97, 98, 99, 100, 101, 102, 103, 104, 105, 106, 107, 108, 109, 110, 111, 112, 113, 114, 115, 116, 117, 118] (by decide +kernel) (by decide +kernel)
set_option maxRecDepth 20000 in
theorem gX7_seen_X7_leansSeen : GoodIn wsX7_seen (wsV RX7 214 RX7 yX7_leansSeen wsX7_leansSeen) := goodIn_app (goodIn_of _ (by decide +kernel)) ggX7_seen_X7_leansSeen
theorem dX7_seen_0 : decode cX7_seen 0 = .ok (.aload_n 0, 1) := by decide +kernel
theorem dX7_seen_1 : decode cX7_seen 1 = .ok (.getfield 22, 3) := by decide +kernel
theorem dX7_seen_4 : decode cX7_seen 4 = .ok (.invokevirtual 144, 3) := by decide +kernel
theorem dX7_seen_7 : decode cX7_seen 7 = .ok (.ifCond .ne 6, 3) := by decide +kernel
theorem dX7_seen_10 : decode cX7_seen 10 = .ok (.ldc 140, 2) := by decide +kernel
theorem dX7_seen_12 : decode cX7_seen 12 = .ok (.ireturn, 1) := by decide +kernel
theorem dX7_seen_13 : decode cX7_seen 13 = .ok (.iload_n 1, 1) := by decide +kernel
theorem dX7_seen_14 : decode cX7_seen 14 = .ok (.iconst 0, 1) := by decide +kernel
theorem dX7_seen_15 : decode cX7_seen 15 = .ok (.bipush 7, 2) := by decide +kernel
theorem dX7_seen_17 : decode cX7_seen 17 = .ok (.invokestatic 72, 3) := by decide +kernel
theorem dX7_seen_20 : decode cX7_seen 20 = .ok (.ifCond .ne 23, 3) := by decide +kernel
theorem dX7_seen_23 : decode cX7_seen 23 = .ok (.iload_n 3, 1) := by decide +kernel
theorem dX7_seen_24 : decode cX7_seen 24 = .ok (.iconst 1, 1) := by decide +kernel
theorem dX7_seen_25 : decode cX7_seen 25 = .ok (.bipush 8, 2) := by decide +kernel
theorem dX7_seen_27 : decode cX7_seen 27 = .ok (.invokestatic 72, 3) := by decide +kernel
theorem dX7_seen_30 : decode cX7_seen 30 = .ok (.ifCond .ne 13, 3) := by decide +kernel
theorem dX7_seen_33 : decode cX7_seen 33 = .ok (.iload 4, 2) := by decide +kernel
theorem dX7_seen_35 : decode cX7_seen 35 = .ok (.iconst 0, 1) := by decide +kernel
theorem dX7_seen_36 : decode cX7_seen 36 = .ok (.iconst 1, 1) := by decide +kernel
theorem dX7_seen_37 : decode cX7_seen 37 = .ok (.invokestatic 72, 3) := by decide +kernel
theorem dX7_seen_40 : decode cX7_seen 40 = .ok (.ifCond .eq 6, 3) := by decide +kernel
theorem dX7_seen_43 : decode cX7_seen 43 = .ok (.ldc 76, 2) := by decide +kernel
theorem dX7_seen_45 : decode cX7_seen 45 = .ok (.ireturn, 1) := by decide +kernel
theorem dX7_seen_46 : decode cX7_seen 46 = .ok (.aload_n 0, 1) := by decide +kernel
theorem dX7_seen_47 : decode cX7_seen 47 = .ok (.getfield 22, 3) := by decide +kernel
theorem dX7_seen_50 : decode cX7_seen 50 = .ok (.getfield 147, 3) := by decide +kernel
theorem dX7_seen_53 : decode cX7_seen 53 = .ok (.getfield 150, 3) := by decide +kernel
theorem dX7_seen_56 : decode cX7_seen 56 = .ok (.ifCond .eq 6, 3) := by decide +kernel
theorem dX7_seen_59 : decode cX7_seen 59 = .ok (.ldc 140, 2) := by decide +kernel
theorem dX7_seen_61 : decode cX7_seen 61 = .ok (.ireturn, 1) := by decide +kernel
theorem dX7_seen_62 : decode cX7_seen 62 = .ok (.aload_n 0, 1) := by decide +kernel
theorem dX7_seen_63 : decode cX7_seen 63 = .ok (.getfield 11, 3) := by decide +kernel
theorem dX7_seen_66 : decode cX7_seen 66 = .ok (.iload_n 1, 1) := by decide +kernel
theorem dX7_seen_67 : decode cX7_seen 67 = .ok (.aaload, 1) := by decide +kernel
theorem dX7_seen_68 : decode cX7_seen 68 = .ok (.iload_n 2, 1) := by decide +kernel
theorem dX7_seen_69 : decode cX7_seen 69 = .ok (.iload_n 3, 1) := by decide +kernel
theorem dX7_seen_70 : decode cX7_seen 70 = .ok (.invokevirtual 85, 3) := by decide +kernel
theorem dX7_seen_73 : decode cX7_seen 73 = .ok (.istore 5, 2) := by decide +kernel
theorem dX7_seen_75 : decode cX7_seen 75 = .ok (.iload 5, 2) := by decide +kernel
theorem dX7_seen_77 : decode cX7_seen 77 = .ok (.ifCond .eq 10, 3) := by decide +kernel
theorem dX7_seen_80 : decode cX7_seen 80 = .ok (.aload_n 0, 1) := by decide +kernel
theorem dX7_seen_81 : decode cX7_seen 81 = .ok (.iload 5, 2) := by decide +kernel
theorem dX7_seen_83 : decode cX7_seen 83 = .ok (.invokevirtual 77, 3) := by decide +kernel
theorem dX7_seen_86 : decode cX7_seen 86 = .ok (.ireturn, 1) := by decide +kernel
theorem dX7_seen_87 : decode cX7_seen 87 = .ok (.aload_n 0, 1) := by decide +kernel
theorem dX7_seen_88 : decode cX7_seen 88 = .ok (.iconst 0, 1) := by decide +kernel
theorem dX7_seen_89 : decode cX7_seen 89 = .ok (.putfield 68, 3) := by decide +kernel
theorem dX7_seen_92 : decode cX7_seen 92 = .ok (.iload 4, 2) := by decide +kernel
theorem dX7_seen_94 : decode cX7_seen 94 = .ok (.ifCond .ne 18, 3) := by decide +kernel
theorem dX7_seen_97 : decode cX7_seen 97 = .ok (.aload_n 0, 1) := by decide +kernel
theorem dX7_seen_98 : decode cX7_seen 98 = .ok (.aload_n 0, 1) := by decide +kernel
theorem dX7_seen_99 : decode cX7_seen 99 = .ok (.getfield 11, 3) := by decide +kernel
theorem dX7_seen_102 : decode cX7_seen 102 = .ok (.iload_n 1, 1) := by decide +kernel
theorem dX7_seen_103 : decode cX7_seen 103 = .ok (.aaload, 1) := by decide +kernel
theorem dX7_seen_104 : decode cX7_seen 104 = .ok (.iload_n 2, 1) := by decide +kernel
theorem dX7_seen_105 : decode cX7_seen 105 = .ok (.iload_n 3, 1) := by decide +kernel
theorem dX7_seen_106 : decode cX7_seen 106 = .ok (.invokevirtual 211, 3) := by decide +kernel
theorem dX7_seen_109 : decode cX7_seen 109 = .ok (.goto 15, 3) := by decide +kernel
theorem dX7_seen_112 : decode cX7_seen 112 = .ok (.aload_n 0, 1) := by decide +kernel
theorem dX7_seen_113 : decode cX7_seen 113 = .ok (.aload_n 0, 1) := by decide +kernel
theorem dX7_seen_114 : decode cX7_seen 114 = .ok (.getfield 11, 3) := by decide +kernel
theorem dX7_seen_117 : decode cX7_seen 117 = .ok (.iload_n 1, 1) := by decide +kernel
theorem dX7_seen_118 : decode cX7_seen 118 = .ok (.aaload, 1) := by decide +kernel
theorem dX7_seen_119 : decode cX7_seen 119 = .ok (.iload_n 2, 1) := by decide +kernel
theorem dX7_seen_120 : decode cX7_seen 120 = .ok (.iload_n 3, 1) := by decide +kernel
theorem dX7_seen_121 : decode cX7_seen 121 = .ok (.invokevirtual 214, 3) := by decide +kernel
theorem dX7_seen_124 : decode cX7_seen 124 = .ok (.ireturn, 1) := by decide +kernel
set_option maxRecDepth 20000 in
theorem ggX7_who_X7_isOut : GoodIn wsX7_who wsX7_isOut := goodIn_r _ [13] (by decide +kernel) (by decide +kernel)
set_option maxRecDepth 20000 in
theorem gX7_who_X7_isOut : GoodIn wsX7_who (va_wsS RX7 72 yX7_isOut wsX7_isOut) := goodIn_app (goodIn_of _ (by decide +kernel)) ggX7_who_X7_isOut
set_option maxRecDepth 20000 in
theorem ggX7_who_X5_findingAt : GoodIn wsX7_who wsX5_findingAt := goodIn_r _ [18, 19, 20, 21, 22, 17, 23, 24, 107, 108, 109] (by decide +kernel) (by decide +kernel)
set_option maxRecDepth 20000 in
theorem gX7_who_X5_findingAt : GoodIn wsX7_who (wsV RX7 85 RX5 yX5_findingAt wsX5_findingAt) := goodIn_app (goodIn_of _ (by decide +kernel)) ggX7_who_X5_findingAt
set_option maxRecDepth 20000 in
theorem ggX7_who_X7_found : GoodIn wsX7_who wsX7_found := goodIn_r _ [28, 8, 29, 83, 84, 85, 86, 87, 88, 89, 90, 91, 92, 93] (by decide +kernel) (by decide +kernel)
set_option maxRecDepth 20000 in
theorem gX7_who_X7_found : GoodIn wsX7_who (wsV RX7 77 RX7 yX7_found wsX7_found) := goodIn_app (goodIn_of _ (by decide +kernel)) ggX7_who_X7_found
set_option maxRecDepth 20000 in
theorem ggX7_who_X2_be : GoodIn wsX7_who wsX2_be := goodIn_r _ [34, 35, 36, 37, 38, 103, 104, 105, 106] (by decide +kernel) (by decide +kernel)
set_option maxRecDepth 20000 in
theorem gX7_who_X2_be : GoodIn wsX7_who (wsV RX7 189 RX2 yX2_be wsX2_be) := goodIn_app (goodIn_of _ (by decide +kernel)) ggX7_who_X2_be
set_option maxRecDepth 20000 in
theorem ggX7_who_X3_forceAt : GoodIn wsX7_who wsX3_forceAt := goodIn_r _ [43, 44, 45, 11, 12, 13, 94, 95, 96, 97, 98, 99, 100, 101, 102] (by decide +kernel) (by decide +kernel)
set_option maxRecDepth 20000 in
theorem gX7_who_X3_forceAt : GoodIn wsX7_who (wsV RX7 163 RX3 yX3_forceAt wsX3_forceAt) := goodIn_app (goodIn_of _ (by decide +kernel)) ggX7_who_X3_forceAt
set_option maxRecDepth 20000 in
theorem ggX7_who_X2_pass : GoodIn wsX7_who wsX2_pass := goodIn_r _ [49, 38, 35, 36, 50, 51, 52, 37, 53, 54, 55, 56, 33, 57, 58, 59, 60, 61, 62, 63, 64, 65, 66, 67, 68, 69, 70, 71, 72, 73, 74, 75, 76, 11, 12, 13, 103, 104, 105, 106, 94, 95, 96, 97, 98, 99, 100, 101, 102] (by decide +kernel) (by decide +kernel)
set_option maxRecDepth 20000 in
theorem gX7_who_X2_pass : GoodIn wsX7_who (wsV RX7 166 RX2 yX2_pass wsX2_pass) := goodIn_app (goodIn_of _ (by decide +kernel)) ggX7_who_X2_pass
set_option maxRecDepth 20000 in
theorem ggX7_who_X7_comesSo : GoodIn wsX7_who wsX7_comesSo := goodIn_r _ [80, 9, 81, 82, 1, 46, 47, 48, 33, 49, 38, 35, 36, 50, 51, 52, 37, 53, 54, 55, 56, 57, 58, 59, 60, 61, 62, 63, 64, 65, 66, 67, 68, 69, 70, 71, 72, 73, 74, 75, 76, 11, 12, 13, 83, 84, 85, 86, 87, 88, 89, 90, 91, 92, 93, 103, 104, 105, 106, 107, 108, 109, 94, 95, 96, 97, 98, 99, 100, 101, 102] (by decide +kernel) (by decide +kernel)
set_option maxRecDepth 20000 in
theorem gX7_who_X7_comesSo : GoodIn wsX7_who (wsV RX7 217 RX7 yX7_comesSo wsX7_comesSo) := goodIn_app (goodIn_of _ (by decide +kernel)) ggX7_who_X7_comesSo
theorem dX7_who_0 : decode cX7_who 0 = .ok (.iload_n 1, 1) := by decide +kernel
theorem dX7_who_1 : decode cX7_who 1 = .ok (.iconst 0, 1) := by decide +kernel
theorem dX7_who_2 : decode cX7_who 2 = .ok (.aload_n 0, 1) := by decide +kernel
theorem dX7_who_3 : decode cX7_who 3 = .ok (.getfield 22, 3) := by decide +kernel
theorem dX7_who_6 : decode cX7_who 6 = .ok (.getfield 134, 3) := by decide +kernel
theorem dX7_who_9 : decode cX7_who 9 = .ok (.iconst 1, 1) := by decide +kernel
theorem dX7_who_10 : decode cX7_who 10 = .ok (.isub, 1) := by decide +kernel
theorem dX7_who_11 : decode cX7_who 11 = .ok (.invokestatic 72, 3) := by decide +kernel
theorem dX7_who_14 : decode cX7_who 14 = .ok (.ifCond .ne 24, 3) := by decide +kernel
theorem dX7_who_17 : decode cX7_who 17 = .ok (.iload_n 2, 1) := by decide +kernel
theorem dX7_who_18 : decode cX7_who 18 = .ok (.iconst 0, 1) := by decide +kernel
theorem dX7_who_19 : decode cX7_who 19 = .ok (.bipush 7, 2) := by decide +kernel
theorem dX7_who_21 : decode cX7_who 21 = .ok (.invokestatic 72, 3) := by decide +kernel
theorem dX7_who_24 : decode cX7_who 24 = .ok (.ifCond .ne 14, 3) := by decide +kernel
theorem dX7_who_27 : decode cX7_who 27 = .ok (.iload 4, 2) := by decide +kernel
theorem dX7_who_29 : decode cX7_who 29 = .ok (.iconst 1, 1) := by decide +kernel
theorem dX7_who_30 : decode cX7_who 30 = .ok (.bipush 8, 2) := by decide +kernel
theorem dX7_who_32 : decode cX7_who 32 = .ok (.invokestatic 72, 3) := by decide +kernel
theorem dX7_who_35 : decode cX7_who 35 = .ok (.ifCond .eq 6, 3) := by decide +kernel
theorem dX7_who_38 : decode cX7_who 38 = .ok (.ldc 76, 2) := by decide +kernel
theorem dX7_who_40 : decode cX7_who 40 = .ok (.ireturn, 1) := by decide +kernel
theorem dX7_who_41 : decode cX7_who 41 = .ok (.aload_n 0, 1) := by decide +kernel
theorem dX7_who_42 : decode cX7_who 42 = .ok (.getfield 22, 3) := by decide +kernel
theorem dX7_who_45 : decode cX7_who 45 = .ok (.getfield 147, 3) := by decide +kernel
theorem dX7_who_48 : decode cX7_who 48 = .ok (.getfield 150, 3) := by decide +kernel
theorem dX7_who_51 : decode cX7_who 51 = .ok (.ifCond .eq 6, 3) := by decide +kernel
theorem dX7_who_54 : decode cX7_who 54 = .ok (.ldc 140, 2) := by decide +kernel
theorem dX7_who_56 : decode cX7_who 56 = .ok (.ireturn, 1) := by decide +kernel
theorem dX7_who_57 : decode cX7_who 57 = .ok (.aload_n 0, 1) := by decide +kernel
theorem dX7_who_58 : decode cX7_who 58 = .ok (.getfield 11, 3) := by decide +kernel
theorem dX7_who_61 : decode cX7_who 61 = .ok (.iload_n 2, 1) := by decide +kernel
theorem dX7_who_62 : decode cX7_who 62 = .ok (.aaload, 1) := by decide +kernel
theorem dX7_who_63 : decode cX7_who 63 = .ok (.iload_n 3, 1) := by decide +kernel
theorem dX7_who_64 : decode cX7_who 64 = .ok (.iload 4, 2) := by decide +kernel
theorem dX7_who_66 : decode cX7_who 66 = .ok (.invokevirtual 85, 3) := by decide +kernel
theorem dX7_who_69 : decode cX7_who 69 = .ok (.istore 5, 2) := by decide +kernel
theorem dX7_who_71 : decode cX7_who 71 = .ok (.iload 5, 2) := by decide +kernel
theorem dX7_who_73 : decode cX7_who 73 = .ok (.ifCond .eq 10, 3) := by decide +kernel
theorem dX7_who_76 : decode cX7_who 76 = .ok (.aload_n 0, 1) := by decide +kernel
theorem dX7_who_77 : decode cX7_who 77 = .ok (.iload 5, 2) := by decide +kernel
theorem dX7_who_79 : decode cX7_who 79 = .ok (.invokevirtual 77, 3) := by decide +kernel
theorem dX7_who_82 : decode cX7_who 82 = .ok (.ireturn, 1) := by decide +kernel
theorem dX7_who_83 : decode cX7_who 83 = .ok (.aload_n 0, 1) := by decide +kernel
theorem dX7_who_84 : decode cX7_who 84 = .ok (.iconst 0, 1) := by decide +kernel
theorem dX7_who_85 : decode cX7_who 85 = .ok (.putfield 68, 3) := by decide +kernel
theorem dX7_who_88 : decode cX7_who 88 = .ok (.iconst 0, 1) := by decide +kernel
theorem dX7_who_89 : decode cX7_who 89 = .ok (.istore 6, 2) := by decide +kernel
theorem dX7_who_91 : decode cX7_who 91 = .ok (.iconst 1, 1) := by decide +kernel
theorem dX7_who_92 : decode cX7_who 92 = .ok (.istore 7, 2) := by decide +kernel
theorem dX7_who_94 : decode cX7_who 94 = .ok (.iload 7, 2) := by decide +kernel
theorem dX7_who_96 : decode cX7_who 96 = .ok (.iconst 5, 1) := by decide +kernel
theorem dX7_who_97 : decode cX7_who 97 = .ok (.if_icmp .gt 69, 3) := by decide +kernel
theorem dX7_who_100 : decode cX7_who 100 = .ok (.aload_n 0, 1) := by decide +kernel
theorem dX7_who_101 : decode cX7_who 101 = .ok (.getfield 60, 3) := by decide +kernel
theorem dX7_who_104 : decode cX7_who 104 = .ok (.aload_n 0, 1) := by decide +kernel
theorem dX7_who_105 : decode cX7_who 105 = .ok (.getfield 22, 3) := by decide +kernel
theorem dX7_who_108 : decode cX7_who 108 = .ok (.getfield 147, 3) := by decide +kernel
theorem dX7_who_111 : decode cX7_who 111 = .ok (.invokevirtual 189, 3) := by decide +kernel
theorem dX7_who_114 : decode cX7_who 114 = .ok (.aload_n 0, 1) := by decide +kernel
theorem dX7_who_115 : decode cX7_who 115 = .ok (.getfield 60, 3) := by decide +kernel
theorem dX7_who_118 : decode cX7_who 118 = .ok (.aload_n 0, 1) := by decide +kernel
theorem dX7_who_119 : decode cX7_who 119 = .ok (.getfield 22, 3) := by decide +kernel
theorem dX7_who_122 : decode cX7_who 122 = .ok (.iload 7, 2) := by decide +kernel
theorem dX7_who_124 : decode cX7_who 124 = .ok (.aload_n 0, 1) := by decide +kernel
theorem dX7_who_125 : decode cX7_who 125 = .ok (.getfield 22, 3) := by decide +kernel
theorem dX7_who_128 : decode cX7_who 128 = .ok (.iload_n 1, 1) := by decide +kernel
theorem dX7_who_129 : decode cX7_who 129 = .ok (.invokevirtual 163, 3) := by decide +kernel
theorem dX7_who_132 : decode cX7_who 132 = .ok (.invokevirtual 166, 3) := by decide +kernel
theorem dX7_who_135 : decode cX7_who 135 = .ok (.aload_n 0, 1) := by decide +kernel
theorem dX7_who_136 : decode cX7_who 136 = .ok (.aload_n 0, 1) := by decide +kernel
theorem dX7_who_137 : decode cX7_who 137 = .ok (.getfield 11, 3) := by decide +kernel
theorem dX7_who_140 : decode cX7_who 140 = .ok (.iload_n 2, 1) := by decide +kernel
theorem dX7_who_141 : decode cX7_who 141 = .ok (.aaload, 1) := by decide +kernel
theorem dX7_who_142 : decode cX7_who 142 = .ok (.iload_n 3, 1) := by decide +kernel
theorem dX7_who_143 : decode cX7_who 143 = .ok (.iload 4, 2) := by decide +kernel
theorem dX7_who_145 : decode cX7_who 145 = .ok (.invokevirtual 217, 3) := by decide +kernel
theorem dX7_who_148 : decode cX7_who 148 = .ok (.ifCond .eq 12, 3) := by decide +kernel
theorem dX7_who_151 : decode cX7_who 151 = .ok (.iload 6, 2) := by decide +kernel
theorem dX7_who_153 : decode cX7_who 153 = .ok (.iconst 1, 1) := by decide +kernel
theorem dX7_who_154 : decode cX7_who 154 = .ok (.iload 7, 2) := by decide +kernel
theorem dX7_who_156 : decode cX7_who 156 = .ok (.ishl, 1) := by decide +kernel
theorem dX7_who_157 : decode cX7_who 157 = .ok (.ior, 1) := by decide +kernel
theorem dX7_who_158 : decode cX7_who 158 = .ok (.istore 6, 2) := by decide +kernel
theorem dX7_who_160 : decode cX7_who 160 = .ok (.iinc 7 1, 3) := by decide +kernel
theorem dX7_who_163 : decode cX7_who 163 = .ok (.goto (-69), 3) := by decide +kernel
theorem dX7_who_166 : decode cX7_who 166 = .ok (.iload 6, 2) := by decide +kernel
theorem dX7_who_168 : decode cX7_who 168 = .ok (.ireturn, 1) := by decide +kernel
set_option maxRecDepth 20000 in
theorem ggX7_falls_X3_isThere : GoodIn wsX7_falls wsX3_isThere := goodIn_r _ [11, 12, 112, 113, 114, 115, 116, 117, 118, 119, 120] (by decide +kernel) (by decide +kernel)
set_option maxRecDepth 20000 in
theorem gX7_falls_X3_isThere : GoodIn wsX7_falls (wsV RX7 144 RX3 yX3_isThere wsX3_isThere) := goodIn_app (goodIn_of _ (by decide +kernel)) ggX7_falls_X3_isThere
set_option maxRecDepth 20000 in
theorem ggX7_falls_X4_walk : GoodIn wsX7_falls wsX4_walk := goodIn_r _ [17, 18, 19, 20, 21, 22, 23, 24, 25, 26, 27, 28, 29, 30, 31, 32, 33, 34, 16, 35, 36, 37, 38, 39, 40, 41, 42, 43, 44, 45, 46, 47, 48, 49, 50, 51, 52, 53, 54, 55, 56, 57, 58, 59, 60, 61, 62, 63, 64, 65, 66, 10, 67, 68, 69, 70, 71, 72, 73, 74, 75, 76, 77, 78, 79, 80, 81, 82, 83, 84, 85, 86, 87, 88, 89, 90, 91, 92, 93, 94, 95, 96, 97, 98, 99, 100, 126, 127, 128, 129, 121, 122, 123, 124, 125, 112, 113, 114, 115, 116, 117, 118, 119, 120] (by decide +kernel) (by decide +kernel)
set_option maxRecDepth 20000 in
theorem gX7_falls_X4_walk : GoodIn wsX7_falls (wsV RX7 222 RX4 yX4_walk wsX4_walk) := goodIn_app (goodIn_of _ (by decide +kernel)) ggX7_falls_X4_walk
theorem dX7_falls_0 : decode cX7_falls 0 = .ok (.aload_n 0, 1) := by decide +kernel
theorem dX7_falls_1 : decode cX7_falls 1 = .ok (.getfield 22, 3) := by decide +kernel
theorem dX7_falls_4 : decode cX7_falls 4 = .ok (.invokevirtual 144, 3) := by decide +kernel
theorem dX7_falls_7 : decode cX7_falls 7 = .ok (.ifCond .ne 6, 3) := by decide +kernel
theorem dX7_falls_10 : decode cX7_falls 10 = .ok (.ldc 140, 2) := by decide +kernel
theorem dX7_falls_12 : decode cX7_falls 12 = .ok (.ireturn, 1) := by decide +kernel
theorem dX7_falls_13 : decode cX7_falls 13 = .ok (.aload_n 0, 1) := by decide +kernel
theorem dX7_falls_14 : decode cX7_falls 14 = .ok (.getfield 46, 3) := by decide +kernel
theorem dX7_falls_17 : decode cX7_falls 17 = .ok (.aload_n 0, 1) := by decide +kernel
theorem dX7_falls_18 : decode cX7_falls 18 = .ok (.getfield 22, 3) := by decide +kernel
theorem dX7_falls_21 : decode cX7_falls 21 = .ok (.aload_n 0, 1) := by decide +kernel
theorem dX7_falls_22 : decode cX7_falls 22 = .ok (.getfield 22, 3) := by decide +kernel
theorem dX7_falls_25 : decode cX7_falls 25 = .ok (.getfield 147, 3) := by decide +kernel
theorem dX7_falls_28 : decode cX7_falls 28 = .ok (.iconst 1, 1) := by decide +kernel
theorem dX7_falls_29 : decode cX7_falls 29 = .ok (.iconst 0, 1) := by decide +kernel
theorem dX7_falls_30 : decode cX7_falls 30 = .ok (.ldc 221, 2) := by decide +kernel
theorem dX7_falls_32 : decode cX7_falls 32 = .ok (.invokevirtual 222, 3) := by decide +kernel
theorem dX7_falls_35 : decode cX7_falls 35 = .ok (.aload_n 0, 1) := by decide +kernel
theorem dX7_falls_36 : decode cX7_falls 36 = .ok (.getfield 46, 3) := by decide +kernel
theorem dX7_falls_39 : decode cX7_falls 39 = .ok (.getfield 226, 3) := by decide +kernel
theorem dX7_falls_42 : decode cX7_falls 42 = .ok (.ireturn, 1) := by decide +kernel
set_option maxRecDepth 20000 in
theorem ggX7_mend_X3_isThere : GoodIn wsX7_mend wsX3_isThere := goodIn_r _ [14, 15, 125, 126, 127, 128, 129, 130, 131, 132, 133] (by decide +kernel) (by decide +kernel)
set_option maxRecDepth 20000 in
theorem gX7_mend_X3_isThere : GoodIn wsX7_mend (wsV RX7 144 RX3 yX3_isThere wsX3_isThere) := goodIn_app (goodIn_of _ (by decide +kernel)) ggX7_mend_X3_isThere
set_option maxRecDepth 20000 in
theorem ggX7_mend_X7_isOut : GoodIn wsX7_mend wsX7_isOut := goodIn_r _ [19] (by decide +kernel) (by decide +kernel)
set_option maxRecDepth 20000 in
theorem gX7_mend_X7_isOut : GoodIn wsX7_mend (va_wsS RX7 72 yX7_isOut wsX7_isOut) := goodIn_app (goodIn_of _ (by decide +kernel)) ggX7_mend_X7_isOut
set_option maxRecDepth 20000 in
theorem ggX7_mend_X4_walk : GoodIn wsX7_mend wsX4_walk := goodIn_r _ [24, 25, 26, 27, 28, 29, 30, 31, 32, 33, 34, 35, 36, 37, 38, 39, 40, 41, 23, 42, 43, 44, 45, 46, 47, 48, 49, 50, 51, 52, 17, 18, 19, 53, 54, 55, 56, 57, 58, 59, 60, 61, 62, 63, 64, 65, 66, 67, 68, 69, 70, 13, 71, 72, 73, 74, 75, 76, 77, 78, 79, 80, 81, 82, 83, 84, 85, 86, 87, 88, 89, 90, 91, 92, 93, 94, 95, 96, 97, 98, 99, 100, 101, 102, 103, 104, 134, 135, 136, 137, 138, 139, 140, 141, 142, 125, 126, 127, 128, 129, 130, 131, 132, 133] (by decide +kernel) (by decide +kernel)
set_option maxRecDepth 20000 in
theorem gX7_mend_X4_walk : GoodIn wsX7_mend (wsV RX7 222 RX4 yX4_walk wsX4_walk) := goodIn_app (goodIn_of _ (by decide +kernel)) ggX7_mend_X4_walk
set_option maxRecDepth 20000 in
theorem ggX7_mend_X4_cost : GoodIn wsX7_mend wsX4_cost := goodIn_r _ [108, 27, 138, 139, 140, 141, 142] (by decide +kernel) (by decide +kernel)
set_option maxRecDepth 20000 in
theorem gX7_mend_X4_cost : GoodIn wsX7_mend (wsV RX7 229 RX4 yX4_cost wsX4_cost) := goodIn_app (goodIn_of _ (by decide +kernel)) ggX7_mend_X4_cost
set_option maxRecDepth 20000 in
theorem ggX7_mend_X7_fewestIfFlat : GoodIn wsX7_mend wsX7_fewestIfFlat := goodIn_r _ [112, 1, 113, 4, 5, 20, 21, 22, 23, 24, 25, 26, 27, 28, 29, 30, 31, 32, 33, 34, 35, 36, 37, 38, 39, 40, 41, 42, 43, 44, 45, 46, 47, 48, 49, 50, 51, 52, 17, 18, 19, 53, 54, 55, 56, 57, 58, 59, 60, 61, 62, 63, 64, 65, 66, 67, 68, 69, 70, 13, 71, 72, 73, 74, 75, 76, 77, 78, 79, 80, 81, 82, 83, 84, 85, 86, 87, 88, 89, 90, 91, 92, 93, 94, 95, 96, 97, 98, 99, 100, 101, 102, 103, 104, 105, 106, 107, 108, 114, 115, 116, 117, 118, 119, 120, 121, 122, 123, 124, 125, 126, 127, 128, 129, 130, 131, 132, 133, 134, 135, 136, 137, 138, 139, 140, 141, 142] (by decide +kernel) (by decide +kernel)
set_option maxRecDepth 20000 in
theorem gX7_mend_X7_fewestIfFlat : GoodIn wsX7_mend (wsV RX7 233 RX7 yX7_fewestIfFlat wsX7_fewestIfFlat) := goodIn_app (goodIn_of _ (by decide +kernel)) ggX7_mend_X7_fewestIfFlat
theorem dX7_mend_0 : decode cX7_mend 0 = .ok (.aload_n 0, 1) := by decide +kernel
theorem dX7_mend_1 : decode cX7_mend 1 = .ok (.getfield 22, 3) := by decide +kernel
theorem dX7_mend_4 : decode cX7_mend 4 = .ok (.invokevirtual 144, 3) := by decide +kernel
theorem dX7_mend_7 : decode cX7_mend 7 = .ok (.ifCond .ne 6, 3) := by decide +kernel
theorem dX7_mend_10 : decode cX7_mend 10 = .ok (.ldc 140, 2) := by decide +kernel
theorem dX7_mend_12 : decode cX7_mend 12 = .ok (.ireturn, 1) := by decide +kernel
theorem dX7_mend_13 : decode cX7_mend 13 = .ok (.iload_n 1, 1) := by decide +kernel
theorem dX7_mend_14 : decode cX7_mend 14 = .ok (.iconst 0, 1) := by decide +kernel
theorem dX7_mend_15 : decode cX7_mend 15 = .ok (.iconst 1, 1) := by decide +kernel
theorem dX7_mend_16 : decode cX7_mend 16 = .ok (.invokestatic 72, 3) := by decide +kernel
theorem dX7_mend_19 : decode cX7_mend 19 = .ok (.ifCond .eq 6, 3) := by decide +kernel
theorem dX7_mend_22 : decode cX7_mend 22 = .ok (.ldc 76, 2) := by decide +kernel
theorem dX7_mend_24 : decode cX7_mend 24 = .ok (.ireturn, 1) := by decide +kernel
theorem dX7_mend_25 : decode cX7_mend 25 = .ok (.aload_n 0, 1) := by decide +kernel
theorem dX7_mend_26 : decode cX7_mend 26 = .ok (.getfield 46, 3) := by decide +kernel
theorem dX7_mend_29 : decode cX7_mend 29 = .ok (.aload_n 0, 1) := by decide +kernel
theorem dX7_mend_30 : decode cX7_mend 30 = .ok (.getfield 22, 3) := by decide +kernel
theorem dX7_mend_33 : decode cX7_mend 33 = .ok (.aload_n 0, 1) := by decide +kernel
theorem dX7_mend_34 : decode cX7_mend 34 = .ok (.getfield 22, 3) := by decide +kernel
theorem dX7_mend_37 : decode cX7_mend 37 = .ok (.getfield 147, 3) := by decide +kernel
theorem dX7_mend_40 : decode cX7_mend 40 = .ok (.iconst 1, 1) := by decide +kernel
theorem dX7_mend_41 : decode cX7_mend 41 = .ok (.iconst 0, 1) := by decide +kernel
theorem dX7_mend_42 : decode cX7_mend 42 = .ok (.ldc 221, 2) := by decide +kernel
theorem dX7_mend_44 : decode cX7_mend 44 = .ok (.invokevirtual 222, 3) := by decide +kernel
theorem dX7_mend_47 : decode cX7_mend 47 = .ok (.aload_n 0, 1) := by decide +kernel
theorem dX7_mend_48 : decode cX7_mend 48 = .ok (.getfield 46, 3) := by decide +kernel
theorem dX7_mend_51 : decode cX7_mend 51 = .ok (.invokevirtual 229, 3) := by decide +kernel
theorem dX7_mend_54 : decode cX7_mend 54 = .ok (.istore_n 2, 1) := by decide +kernel
theorem dX7_mend_55 : decode cX7_mend 55 = .ok (.iconst 0, 1) := by decide +kernel
theorem dX7_mend_56 : decode cX7_mend 56 = .ok (.istore_n 3, 1) := by decide +kernel
theorem dX7_mend_57 : decode cX7_mend 57 = .ok (.aload_n 0, 1) := by decide +kernel
theorem dX7_mend_58 : decode cX7_mend 58 = .ok (.getfield 22, 3) := by decide +kernel
theorem dX7_mend_61 : decode cX7_mend 61 = .ok (.getfield 147, 3) := by decide +kernel
theorem dX7_mend_64 : decode cX7_mend 64 = .ok (.getfield 170, 3) := by decide +kernel
theorem dX7_mend_67 : decode cX7_mend 67 = .ok (.iconst 1, 1) := by decide +kernel
theorem dX7_mend_68 : decode cX7_mend 68 = .ok (.iadd, 1) := by decide +kernel
theorem dX7_mend_69 : decode cX7_mend 69 = .ok (.istore 4, 2) := by decide +kernel
theorem dX7_mend_71 : decode cX7_mend 71 = .ok (.iload 4, 2) := by decide +kernel
theorem dX7_mend_73 : decode cX7_mend 73 = .ok (.aload_n 0, 1) := by decide +kernel
theorem dX7_mend_74 : decode cX7_mend 74 = .ok (.getfield 22, 3) := by decide +kernel
theorem dX7_mend_77 : decode cX7_mend 77 = .ok (.getfield 173, 3) := by decide +kernel
theorem dX7_mend_80 : decode cX7_mend 80 = .ok (.if_icmp .ge 34, 3) := by decide +kernel
theorem dX7_mend_83 : decode cX7_mend 83 = .ok (.iload_n 2, 1) := by decide +kernel
theorem dX7_mend_84 : decode cX7_mend 84 = .ok (.ifCond .le 30, 3) := by decide +kernel
theorem dX7_mend_87 : decode cX7_mend 87 = .ok (.aload_n 0, 1) := by decide +kernel
theorem dX7_mend_88 : decode cX7_mend 88 = .ok (.iload 4, 2) := by decide +kernel
theorem dX7_mend_90 : decode cX7_mend 90 = .ok (.iload_n 2, 1) := by decide +kernel
theorem dX7_mend_91 : decode cX7_mend 91 = .ok (.invokevirtual 233, 3) := by decide +kernel
theorem dX7_mend_94 : decode cX7_mend 94 = .ok (.istore 5, 2) := by decide +kernel
theorem dX7_mend_96 : decode cX7_mend 96 = .ok (.iload 5, 2) := by decide +kernel
theorem dX7_mend_98 : decode cX7_mend 98 = .ok (.iload_n 2, 1) := by decide +kernel
theorem dX7_mend_99 : decode cX7_mend 99 = .ok (.if_icmp .ge 9, 3) := by decide +kernel
theorem dX7_mend_102 : decode cX7_mend 102 = .ok (.iload 5, 2) := by decide +kernel
theorem dX7_mend_104 : decode cX7_mend 104 = .ok (.istore_n 2, 1) := by decide +kernel
theorem dX7_mend_105 : decode cX7_mend 105 = .ok (.iload 4, 2) := by decide +kernel
theorem dX7_mend_107 : decode cX7_mend 107 = .ok (.istore_n 3, 1) := by decide +kernel
theorem dX7_mend_108 : decode cX7_mend 108 = .ok (.iinc 4 1, 3) := by decide +kernel
theorem dX7_mend_111 : decode cX7_mend 111 = .ok (.goto (-40), 3) := by decide +kernel
theorem dX7_mend_114 : decode cX7_mend 114 = .ok (.iload_n 2, 1) := by decide +kernel
theorem dX7_mend_115 : decode cX7_mend 115 = .ok (.ldc 221, 2) := by decide +kernel
theorem dX7_mend_117 : decode cX7_mend 117 = .ok (.if_icmp .ne 6, 3) := by decide +kernel
theorem dX7_mend_120 : decode cX7_mend 120 = .ok (.ldc 196, 2) := by decide +kernel
theorem dX7_mend_122 : decode cX7_mend 122 = .ok (.ireturn, 1) := by decide +kernel
theorem dX7_mend_123 : decode cX7_mend 123 = .ok (.iload_n 1, 1) := by decide +kernel
theorem dX7_mend_124 : decode cX7_mend 124 = .ok (.ifCond .ne 7, 3) := by decide +kernel
theorem dX7_mend_127 : decode cX7_mend 127 = .ok (.iload_n 3, 1) := by decide +kernel
theorem dX7_mend_128 : decode cX7_mend 128 = .ok (.goto 4, 3) := by decide +kernel
theorem dX7_mend_131 : decode cX7_mend 131 = .ok (.iload_n 2, 1) := by decide +kernel
theorem dX7_mend_132 : decode cX7_mend 132 = .ok (.ireturn, 1) := by decide +kernel
set_option maxRecDepth 20000 in
theorem ggX7_miss_X3_isThere : GoodIn wsX7_miss wsX3_isThere := goodIn_r _ [12, 13, 122, 123, 124, 125, 126, 127, 128, 129, 130] (by decide +kernel) (by decide +kernel)
set_option maxRecDepth 20000 in
theorem gX7_miss_X3_isThere : GoodIn wsX7_miss (wsV RX7 144 RX3 yX3_isThere wsX3_isThere) := goodIn_app (goodIn_of _ (by decide +kernel)) ggX7_miss_X3_isThere
set_option maxRecDepth 20000 in
theorem ggX7_miss_X7_isOut : GoodIn wsX7_miss wsX7_isOut := goodIn_r _ [17] (by decide +kernel) (by decide +kernel)
set_option maxRecDepth 20000 in
theorem gX7_miss_X7_isOut : GoodIn wsX7_miss (va_wsS RX7 72 yX7_isOut wsX7_isOut) := goodIn_app (goodIn_of _ (by decide +kernel)) ggX7_miss_X7_isOut
set_option maxRecDepth 20000 in
theorem ggX7_miss_X5_findingAt : GoodIn wsX7_miss wsX5_findingAt := goodIn_r _ [22, 23, 24, 25, 26, 21, 27, 28, 131, 132, 133] (by decide +kernel) (by decide +kernel)
set_option maxRecDepth 20000 in
theorem gX7_miss_X5_findingAt : GoodIn wsX7_miss (wsV RX7 85 RX5 yX5_findingAt wsX5_findingAt) := goodIn_app (goodIn_of _ (by decide +kernel)) ggX7_miss_X5_findingAt
set_option maxRecDepth 20000 in
theorem ggX7_miss_X7_found : GoodIn wsX7_miss wsX7_found := goodIn_r _ [32, 6, 33, 111, 112, 113, 114, 115, 116, 117, 118, 119, 120, 121] (by decide +kernel) (by decide +kernel)
set_option maxRecDepth 20000 in
theorem gX7_miss_X7_found : GoodIn wsX7_miss (wsV RX7 77 RX7 yX7_found wsX7_found) := goodIn_app (goodIn_of _ (by decide +kernel)) ggX7_miss_X7_found
set_option maxRecDepth 20000 in
theorem ggX7_miss_X7_tapsIn : GoodIn wsX7_miss wsX7_tapsIn := goodIn_r _ [37, 38, 1, 39, 5, 14, 15, 16, 17, 131, 132, 133, 111, 112, 113, 114, 115, 116, 117, 118, 119, 120, 121, 122, 123, 124, 125, 126, 127, 128, 129, 130] (by decide +kernel) (by decide +kernel)
set_option maxRecDepth 20000 in
theorem gX7_miss_X7_tapsIn : GoodIn wsX7_miss (wsV RX7 207 RX7 yX7_tapsIn wsX7_tapsIn) := goodIn_app (goodIn_of _ (by decide +kernel)) ggX7_miss_X7_tapsIn
set_option maxRecDepth 20000 in
theorem ggX7_miss_X7_isHomeIf : GoodIn wsX7_miss wsX7_isHomeIf := goodIn_r _ [43, 44, 1, 45, 46, 38, 47, 48, 49, 50, 51, 52, 53, 54, 55, 56, 57, 58, 11, 59, 60, 61, 15, 16, 17, 62, 63, 64, 65, 66, 67, 68, 69, 70, 71, 72, 73, 74, 75, 76, 77, 78, 79, 80, 81, 82, 83, 84, 85, 86, 87, 88, 89, 90, 91, 92, 93, 94, 95, 96, 97, 111, 112, 113, 114, 115, 116, 117, 118, 119, 120, 121, 122, 123, 124, 125, 126, 127, 128, 129, 130, 134, 135, 136, 137, 131, 132, 133] (by decide +kernel) (by decide +kernel)
set_option maxRecDepth 20000 in
theorem gX7_miss_X7_isHomeIf : GoodIn wsX7_miss (wsV RX7 240 RX7 yX7_isHomeIf wsX7_isHomeIf) := goodIn_app (goodIn_of _ (by decide +kernel)) ggX7_miss_X7_isHomeIf
set_option maxRecDepth 20000 in
theorem ggX7_miss_J6_bitCount_0f7a4 : GoodIn wsX7_miss wsJ6_bitCount_0f7a4 := goodIn_r _ [101, 102, 103, 104] (by decide +kernel) (by decide +kernel)
set_option maxRecDepth 20000 in
theorem gX7_miss_J6_bitCount_0f7a4 : GoodIn wsX7_miss (va_wsS RX7 244 yJ6_bitCount_0f7a4 wsJ6_bitCount_0f7a4) := goodIn_app (goodIn_of _ (by decide +kernel)) ggX7_miss_J6_bitCount_0f7a4
set_option maxRecDepth 20000 in
theorem ggX7_miss_X7_power : GoodIn wsX7_miss wsX7_power := goodIn_r _ [107] (by decide +kernel) (by decide +kernel)
set_option maxRecDepth 20000 in
theorem gX7_miss_X7_power : GoodIn wsX7_miss (va_wsS RX7 249 yX7_power wsX7_power) := goodIn_app (goodIn_of _ (by decide +kernel)) ggX7_miss_X7_power
set_option maxRecDepth 20000 in
theorem ggX7_miss_X7_commonDivisor : GoodIn wsX7_miss wsX7_commonDivisor := goodIn_r _ [110] (by decide +kernel) (by decide +kernel)
set_option maxRecDepth 20000 in
theorem gX7_miss_X7_commonDivisor : GoodIn wsX7_miss (va_wsS RX7 253 yX7_commonDivisor wsX7_commonDivisor) := goodIn_app (goodIn_of _ (by decide +kernel)) ggX7_miss_X7_commonDivisor
theorem dX7_miss_0 : decode cX7_miss 0 = .ok (.aload_n 0, 1) := by decide +kernel
theorem dX7_miss_1 : decode cX7_miss 1 = .ok (.getfield 22, 3) := by decide +kernel
theorem dX7_miss_4 : decode cX7_miss 4 = .ok (.invokevirtual 144, 3) := by decide +kernel
theorem dX7_miss_7 : decode cX7_miss 7 = .ok (.ifCond .ne 7, 3) := by decide +kernel
theorem dX7_miss_10 : decode cX7_miss 10 = .ok (.ldc2_w 236, 3) := by decide +kernel
theorem dX7_miss_13 : decode cX7_miss 13 = .ok (.lreturn, 1) := by decide +kernel
theorem dX7_miss_14 : decode cX7_miss 14 = .ok (.iload_n 1, 1) := by decide +kernel
theorem dX7_miss_15 : decode cX7_miss 15 = .ok (.iconst 0, 1) := by decide +kernel
theorem dX7_miss_16 : decode cX7_miss 16 = .ok (.bipush 7, 2) := by decide +kernel
theorem dX7_miss_18 : decode cX7_miss 18 = .ok (.invokestatic 72, 3) := by decide +kernel
theorem dX7_miss_21 : decode cX7_miss 21 = .ok (.ifCond .ne 34, 3) := by decide +kernel
theorem dX7_miss_24 : decode cX7_miss 24 = .ok (.iload_n 3, 1) := by decide +kernel
theorem dX7_miss_25 : decode cX7_miss 25 = .ok (.iconst 1, 1) := by decide +kernel
theorem dX7_miss_26 : decode cX7_miss 26 = .ok (.bipush 24, 2) := by decide +kernel
theorem dX7_miss_28 : decode cX7_miss 28 = .ok (.invokestatic 72, 3) := by decide +kernel
theorem dX7_miss_31 : decode cX7_miss 31 = .ok (.ifCond .ne 24, 3) := by decide +kernel
theorem dX7_miss_34 : decode cX7_miss 34 = .ok (.iload 4, 2) := by decide +kernel
theorem dX7_miss_36 : decode cX7_miss 36 = .ok (.iconst 0, 1) := by decide +kernel
theorem dX7_miss_37 : decode cX7_miss 37 = .ok (.bipush 10, 2) := by decide +kernel
theorem dX7_miss_39 : decode cX7_miss 39 = .ok (.invokestatic 72, 3) := by decide +kernel
theorem dX7_miss_42 : decode cX7_miss 42 = .ok (.ifCond .ne 13, 3) := by decide +kernel
theorem dX7_miss_45 : decode cX7_miss 45 = .ok (.iload 5, 2) := by decide +kernel
theorem dX7_miss_47 : decode cX7_miss 47 = .ok (.iconst 0, 1) := by decide +kernel
theorem dX7_miss_48 : decode cX7_miss 48 = .ok (.iconst 1, 1) := by decide +kernel
theorem dX7_miss_49 : decode cX7_miss 49 = .ok (.invokestatic 72, 3) := by decide +kernel
theorem dX7_miss_52 : decode cX7_miss 52 = .ok (.ifCond .eq 7, 3) := by decide +kernel
theorem dX7_miss_55 : decode cX7_miss 55 = .ok (.ldc2_w 238, 3) := by decide +kernel
theorem dX7_miss_58 : decode cX7_miss 58 = .ok (.lreturn, 1) := by decide +kernel
theorem dX7_miss_59 : decode cX7_miss 59 = .ok (.aload_n 0, 1) := by decide +kernel
theorem dX7_miss_60 : decode cX7_miss 60 = .ok (.getfield 11, 3) := by decide +kernel
theorem dX7_miss_63 : decode cX7_miss 63 = .ok (.iload_n 1, 1) := by decide +kernel
theorem dX7_miss_64 : decode cX7_miss 64 = .ok (.aaload, 1) := by decide +kernel
theorem dX7_miss_65 : decode cX7_miss 65 = .ok (.astore 6, 2) := by decide +kernel
theorem dX7_miss_67 : decode cX7_miss 67 = .ok (.aload 6, 2) := by decide +kernel
theorem dX7_miss_69 : decode cX7_miss 69 = .ok (.iload_n 2, 1) := by decide +kernel
theorem dX7_miss_70 : decode cX7_miss 70 = .ok (.iload_n 3, 1) := by decide +kernel
theorem dX7_miss_71 : decode cX7_miss 71 = .ok (.invokevirtual 85, 3) := by decide +kernel
theorem dX7_miss_74 : decode cX7_miss 74 = .ok (.istore 7, 2) := by decide +kernel
theorem dX7_miss_76 : decode cX7_miss 76 = .ok (.iload 7, 2) := by decide +kernel
theorem dX7_miss_78 : decode cX7_miss 78 = .ok (.ifCond .eq 11, 3) := by decide +kernel
theorem dX7_miss_81 : decode cX7_miss 81 = .ok (.aload_n 0, 1) := by decide +kernel
theorem dX7_miss_82 : decode cX7_miss 82 = .ok (.iload 7, 2) := by decide +kernel
theorem dX7_miss_84 : decode cX7_miss 84 = .ok (.invokevirtual 77, 3) := by decide +kernel
theorem dX7_miss_87 : decode cX7_miss 87 = .ok (.i2l, 1) := by decide +kernel
theorem dX7_miss_88 : decode cX7_miss 88 = .ok (.lreturn, 1) := by decide +kernel
theorem dX7_miss_89 : decode cX7_miss 89 = .ok (.aload_n 0, 1) := by decide +kernel
theorem dX7_miss_90 : decode cX7_miss 90 = .ok (.aload 6, 2) := by decide +kernel
theorem dX7_miss_92 : decode cX7_miss 92 = .ok (.iload_n 2, 1) := by decide +kernel
theorem dX7_miss_93 : decode cX7_miss 93 = .ok (.iload_n 3, 1) := by decide +kernel
theorem dX7_miss_94 : decode cX7_miss 94 = .ok (.invokevirtual 207, 3) := by decide +kernel
theorem dX7_miss_97 : decode cX7_miss 97 = .ok (.istore 8, 2) := by decide +kernel
theorem dX7_miss_99 : decode cX7_miss 99 = .ok (.iload 8, 2) := by decide +kernel
theorem dX7_miss_101 : decode cX7_miss 101 = .ok (.ldc 196, 2) := by decide +kernel
theorem dX7_miss_103 : decode cX7_miss 103 = .ok (.if_icmp .eq 10, 3) := by decide +kernel
theorem dX7_miss_106 : decode cX7_miss 106 = .ok (.iload 8, 2) := by decide +kernel
theorem dX7_miss_108 : decode cX7_miss 108 = .ok (.bipush 8, 2) := by decide +kernel
theorem dX7_miss_110 : decode cX7_miss 110 = .ok (.if_icmp .le 7, 3) := by decide +kernel
theorem dX7_miss_113 : decode cX7_miss 113 = .ok (.ldc2_w 238, 3) := by decide +kernel
theorem dX7_miss_116 : decode cX7_miss 116 = .ok (.lreturn, 1) := by decide +kernel
theorem dX7_miss_117 : decode cX7_miss 117 = .ok (.aload_n 0, 1) := by decide +kernel
theorem dX7_miss_118 : decode cX7_miss 118 = .ok (.iconst 0, 1) := by decide +kernel
theorem dX7_miss_119 : decode cX7_miss 119 = .ok (.putfield 68, 3) := by decide +kernel
theorem dX7_miss_122 : decode cX7_miss 122 = .ok (.lconst 0, 1) := by decide +kernel
theorem dX7_miss_123 : decode cX7_miss 123 = .ok (.lstore 9, 2) := by decide +kernel
theorem dX7_miss_125 : decode cX7_miss 125 = .ok (.iconst 0, 1) := by decide +kernel
theorem dX7_miss_126 : decode cX7_miss 126 = .ok (.istore 11, 2) := by decide +kernel
theorem dX7_miss_128 : decode cX7_miss 128 = .ok (.iload 11, 2) := by decide +kernel
theorem dX7_miss_130 : decode cX7_miss 130 = .ok (.iconst 1, 1) := by decide +kernel
theorem dX7_miss_131 : decode cX7_miss 131 = .ok (.iload 8, 2) := by decide +kernel
theorem dX7_miss_133 : decode cX7_miss 133 = .ok (.ishl, 1) := by decide +kernel
theorem dX7_miss_134 : decode cX7_miss 134 = .ok (.if_icmp .ge 55, 3) := by decide +kernel
theorem dX7_miss_137 : decode cX7_miss 137 = .ok (.aload_n 0, 1) := by decide +kernel
theorem dX7_miss_138 : decode cX7_miss 138 = .ok (.iload 11, 2) := by decide +kernel
theorem dX7_miss_140 : decode cX7_miss 140 = .ok (.aload 6, 2) := by decide +kernel
theorem dX7_miss_142 : decode cX7_miss 142 = .ok (.iload_n 2, 1) := by decide +kernel
theorem dX7_miss_143 : decode cX7_miss 143 = .ok (.iload_n 3, 1) := by decide +kernel
theorem dX7_miss_144 : decode cX7_miss 144 = .ok (.invokevirtual 240, 3) := by decide +kernel
theorem dX7_miss_147 : decode cX7_miss 147 = .ok (.ifCond .eq 36, 3) := by decide +kernel
theorem dX7_miss_150 : decode cX7_miss 150 = .ok (.iload 11, 2) := by decide +kernel
theorem dX7_miss_152 : decode cX7_miss 152 = .ok (.invokestatic 244, 3) := by decide +kernel
theorem dX7_miss_155 : decode cX7_miss 155 = .ok (.istore 12, 2) := by decide +kernel
theorem dX7_miss_157 : decode cX7_miss 157 = .ok (.lload 9, 2) := by decide +kernel
