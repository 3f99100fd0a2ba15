theorem dX8_way_46 : decode cX8_way 46 = .ok (.istore_n 3, 1) := by decide +kernel
theorem dX8_way_47 : decode cX8_way 47 = .ok (.aload_n 0, 1) := by decide +kernel
theorem dX8_way_48 : decode cX8_way 48 = .ok (.getfield 34, 3) := by decide +kernel
theorem dX8_way_51 : decode cX8_way 51 = .ok (.iload_n 3, 1) := by decide +kernel
theorem dX8_way_52 : decode cX8_way 52 = .ok (.iaload, 1) := by decide +kernel
theorem dX8_way_53 : decode cX8_way 53 = .ok (.sipush 9999, 3) := by decide +kernel
theorem dX8_way_56 : decode cX8_way 56 = .ok (.if_icmp .lt 6, 3) := by decide +kernel
theorem dX8_way_59 : decode cX8_way 59 = .ok (.ldc 237, 2) := by decide +kernel
theorem dX8_way_61 : decode cX8_way 61 = .ok (.ireturn, 1) := by decide +kernel
theorem dX8_way_62 : decode cX8_way 62 = .ok (.iload_n 2, 1) := by decide +kernel
theorem dX8_way_63 : decode cX8_way 63 = .ok (.ifCond .ne 10, 3) := by decide +kernel
theorem dX8_way_66 : decode cX8_way 66 = .ok (.aload_n 0, 1) := by decide +kernel
theorem dX8_way_67 : decode cX8_way 67 = .ok (.getfield 34, 3) := by decide +kernel
theorem dX8_way_70 : decode cX8_way 70 = .ok (.iload_n 3, 1) := by decide +kernel
theorem dX8_way_71 : decode cX8_way 71 = .ok (.iaload, 1) := by decide +kernel
theorem dX8_way_72 : decode cX8_way 72 = .ok (.ireturn, 1) := by decide +kernel
theorem dX8_way_73 : decode cX8_way 73 = .ok (.iconst (-1), 1) := by decide +kernel
theorem dX8_way_74 : decode cX8_way 74 = .ok (.istore 4, 2) := by decide +kernel
theorem dX8_way_76 : decode cX8_way 76 = .ok (.aload_n 0, 1) := by decide +kernel
theorem dX8_way_77 : decode cX8_way 77 = .ok (.iload_n 3, 1) := by decide +kernel
theorem dX8_way_78 : decode cX8_way 78 = .ok (.iload 4, 2) := by decide +kernel
theorem dX8_way_80 : decode cX8_way 80 = .ok (.iload_n 1, 1) := by decide +kernel
theorem dX8_way_81 : decode cX8_way 81 = .ok (.invokevirtual 233, 3) := by decide +kernel
theorem dX8_way_84 : decode cX8_way 84 = .ok (.aload_n 0, 1) := by decide +kernel
theorem dX8_way_85 : decode cX8_way 85 = .ok (.getfield 34, 3) := by decide +kernel
theorem dX8_way_88 : decode cX8_way 88 = .ok (.iload_n 3, 1) := by decide +kernel
theorem dX8_way_89 : decode cX8_way 89 = .ok (.iaload, 1) := by decide +kernel
theorem dX8_way_90 : decode cX8_way 90 = .ok (.if_icmp .eq 9, 3) := by decide +kernel
theorem dX8_way_93 : decode cX8_way 93 = .ok (.iinc 4 1, 3) := by decide +kernel
theorem dX8_way_96 : decode cX8_way 96 = .ok (.goto (-20), 3) := by decide +kernel
theorem dX8_way_99 : decode cX8_way 99 = .ok (.aload_n 0, 1) := by decide +kernel
theorem dX8_way_100 : decode cX8_way 100 = .ok (.invokevirtual 227, 3) := by decide +kernel
theorem dX8_way_103 : decode cX8_way 103 = .ok (.iload 4, 2) := by decide +kernel
theorem dX8_way_105 : decode cX8_way 105 = .ok (.ifCond .ge 8, 3) := by decide +kernel
theorem dX8_way_108 : decode cX8_way 108 = .ok (.ldc 237, 2) := by decide +kernel
theorem dX8_way_110 : decode cX8_way 110 = .ok (.goto 5, 3) := by decide +kernel
theorem dX8_way_113 : decode cX8_way 113 = .ok (.iload 4, 2) := by decide +kernel
theorem dX8_way_115 : decode cX8_way 115 = .ok (.ireturn, 1) := by decide +kernel
set_option maxRecDepth 20000 in
theorem ggX8_fewest_X8_in : GoodIn wsX8_fewest wsX8_in := goodIn_r _ [7] (by decide +kernel) (by decide +kernel)
set_option maxRecDepth 20000 in
theorem gX8_fewest_X8_in : GoodIn wsX8_fewest (va_wsS RX8 54 yX8_in wsX8_in) := goodIn_app (goodIn_of _ (by decide +kernel)) ggX8_fewest_X8_in
set_option maxRecDepth 20000 in
theorem ggX8_fewest_X8_way : GoodIn wsX8_fewest wsX8_way := goodIn_r _ [11, 12, 13, 14, 15, 16, 17, 18, 19, 20, 6, 21, 22, 23, 24, 25, 26, 27, 28, 29, 30, 31, 32, 33, 34, 35, 36, 37, 38, 39, 40, 41, 42, 43, 44, 45, 46, 47, 48, 49, 50, 51, 52, 53, 54, 55, 56, 57, 58, 59, 60, 61, 62, 63, 64, 65, 66, 67, 68, 69, 70, 71, 72, 73, 74, 75, 76, 77, 78, 79, 80, 81, 82, 83, 84, 85, 86, 87, 88, 89, 90, 91, 92, 93, 94, 95, 96, 97, 98, 99, 100, 101, 102, 103, 104, 105, 106, 107, 108, 109, 110, 111] (by decide +kernel) (by decide +kernel)
set_option maxRecDepth 20000 in
theorem gX8_fewest_X8_way : GoodIn wsX8_fewest (wsV RX8 242 RX8 yX8_way wsX8_way) := goodIn_app (goodIn_of _ (by decide +kernel)) ggX8_fewest_X8_way
theorem dX8_fewest_0 : decode cX8_fewest 0 = .ok (.aload_n 0, 1) := by decide +kernel
theorem dX8_fewest_1 : decode cX8_fewest 1 = .ok (.getfield 136, 3) := by decide +kernel
theorem dX8_fewest_4 : decode cX8_fewest 4 = .ok (.ifCond .ne 8, 3) := by decide +kernel
theorem dX8_fewest_7 : decode cX8_fewest 7 = .ok (.ldc 184, 2) := by decide +kernel
theorem dX8_fewest_9 : decode cX8_fewest 9 = .ok (.goto 24, 3) := by decide +kernel
theorem dX8_fewest_12 : decode cX8_fewest 12 = .ok (.iload_n 1, 1) := by decide +kernel
theorem dX8_fewest_13 : decode cX8_fewest 13 = .ok (.i2l, 1) := by decide +kernel
theorem dX8_fewest_14 : decode cX8_fewest 14 = .ok (.lconst 0, 1) := by decide +kernel
theorem dX8_fewest_15 : decode cX8_fewest 15 = .ok (.lconst 1, 1) := by decide +kernel
theorem dX8_fewest_16 : decode cX8_fewest 16 = .ok (.invokestatic 54, 3) := by decide +kernel
theorem dX8_fewest_19 : decode cX8_fewest 19 = .ok (.ifCond .eq 12, 3) := by decide +kernel
theorem dX8_fewest_22 : decode cX8_fewest 22 = .ok (.aload_n 0, 1) := by decide +kernel
theorem dX8_fewest_23 : decode cX8_fewest 23 = .ok (.iconst 1, 1) := by decide +kernel
theorem dX8_fewest_24 : decode cX8_fewest 24 = .ok (.iload_n 1, 1) := by decide +kernel
theorem dX8_fewest_25 : decode cX8_fewest 25 = .ok (.invokevirtual 242, 3) := by decide +kernel
theorem dX8_fewest_28 : decode cX8_fewest 28 = .ok (.goto 5, 3) := by decide +kernel
theorem dX8_fewest_31 : decode cX8_fewest 31 = .ok (.ldc 64, 2) := by decide +kernel
theorem dX8_fewest_33 : decode cX8_fewest 33 = .ok (.ireturn, 1) := by decide +kernel
set_option maxRecDepth 20000 in
theorem ggX8_soonest_X8_in : GoodIn wsX8_soonest wsX8_in := goodIn_r _ [7] (by decide +kernel) (by decide +kernel)
set_option maxRecDepth 20000 in
theorem gX8_soonest_X8_in : GoodIn wsX8_soonest (va_wsS RX8 54 yX8_in wsX8_in) := goodIn_app (goodIn_of _ (by decide +kernel)) ggX8_soonest_X8_in
set_option maxRecDepth 20000 in
theorem ggX8_soonest_X8_way : GoodIn wsX8_soonest wsX8_way := goodIn_r _ [11, 12, 13, 14, 15, 16, 17, 18, 19, 20, 6, 21, 22, 23, 24, 25, 26, 27, 28, 29, 30, 31, 32, 33, 34, 35, 36, 37, 38, 39, 40, 41, 42, 43, 44, 45, 46, 47, 48, 49, 50, 51, 52, 53, 54, 55, 56, 57, 58, 59, 60, 61, 62, 63, 64, 65, 66, 67, 68, 69, 70, 71, 72, 73, 74, 75, 76, 77, 78, 79, 80, 81, 82, 83, 84, 85, 86, 87, 88, 89, 90, 91, 92, 93, 94, 95, 96, 97, 98, 99, 100, 101, 102, 103, 104, 105, 106, 107, 108, 109, 110, 111] (by decide +kernel) (by decide +kernel)
set_option maxRecDepth 20000 in
theorem gX8_soonest_X8_way : GoodIn wsX8_soonest (wsV RX8 242 RX8 yX8_way wsX8_way) := goodIn_app (goodIn_of _ (by decide +kernel)) ggX8_soonest_X8_way
theorem dX8_soonest_0 : decode cX8_soonest 0 = .ok (.aload_n 0, 1) := by decide +kernel
theorem dX8_soonest_1 : decode cX8_soonest 1 = .ok (.getfield 136, 3) := by decide +kernel
theorem dX8_soonest_4 : decode cX8_soonest 4 = .ok (.ifCond .ne 8, 3) := by decide +kernel
theorem dX8_soonest_7 : decode cX8_soonest 7 = .ok (.ldc 184, 2) := by decide +kernel
theorem dX8_soonest_9 : decode cX8_soonest 9 = .ok (.goto 24, 3) := by decide +kernel
theorem dX8_soonest_12 : decode cX8_soonest 12 = .ok (.iload_n 1, 1) := by decide +kernel
theorem dX8_soonest_13 : decode cX8_soonest 13 = .ok (.i2l, 1) := by decide +kernel
theorem dX8_soonest_14 : decode cX8_soonest 14 = .ok (.lconst 0, 1) := by decide +kernel
theorem dX8_soonest_15 : decode cX8_soonest 15 = .ok (.lconst 1, 1) := by decide +kernel
theorem dX8_soonest_16 : decode cX8_soonest 16 = .ok (.invokestatic 54, 3) := by decide +kernel
theorem dX8_soonest_19 : decode cX8_soonest 19 = .ok (.ifCond .eq 12, 3) := by decide +kernel
theorem dX8_soonest_22 : decode cX8_soonest 22 = .ok (.aload_n 0, 1) := by decide +kernel
theorem dX8_soonest_23 : decode cX8_soonest 23 = .ok (.iconst 0, 1) := by decide +kernel
theorem dX8_soonest_24 : decode cX8_soonest 24 = .ok (.iload_n 1, 1) := by decide +kernel
theorem dX8_soonest_25 : decode cX8_soonest 25 = .ok (.invokevirtual 242, 3) := by decide +kernel
theorem dX8_soonest_28 : decode cX8_soonest 28 = .ok (.goto 5, 3) := by decide +kernel
theorem dX8_soonest_31 : decode cX8_soonest 31 = .ok (.ldc 64, 2) := by decide +kernel
theorem dX8_soonest_33 : decode cX8_soonest 33 = .ok (.ireturn, 1) := by decide +kernel
set_option maxRecDepth 20000 in
theorem ggX8_heldFrom_X8_works : GoodIn wsX8_heldFrom wsX8_works := goodIn_r _ [12, 13, 5, 14, 15, 16, 11, 17, 6, 18, 19, 20, 7, 21, 3, 22, 23, 24, 25, 26, 27, 28, 29, 30, 31, 32, 33, 34, 35, 36, 37, 38, 39, 40, 41, 42, 43, 44, 45, 46, 47, 48, 49, 50, 51, 52, 53, 54, 55, 56, 57, 58, 59, 60, 61, 62, 63, 64, 65, 66, 67, 68, 69, 70, 71, 72, 73, 74, 75, 76, 77, 78, 79, 80, 81, 82, 83, 84, 85, 86, 87, 88, 89, 90, 91, 92, 93, 94, 95, 96, 97, 98, 99, 100, 101, 102, 103] (by decide +kernel) (by decide +kernel)
set_option maxRecDepth 20000 in
theorem gX8_heldFrom_X8_works : GoodIn wsX8_heldFrom (wsV RX8 238 RX8 yX8_works wsX8_works) := goodIn_app (goodIn_of _ (by decide +kernel)) ggX8_heldFrom_X8_works
set_option maxRecDepth 20000 in
theorem ggX8_heldFrom_X8_place : GoodIn wsX8_heldFrom wsX8_place := goodIn_r _ [66] (by decide +kernel) (by decide +kernel)
set_option maxRecDepth 20000 in
theorem gX8_heldFrom_X8_place : GoodIn wsX8_heldFrom (va_wsS RX8 230 yX8_place wsX8_place) := goodIn_app (goodIn_of _ (by decide +kernel)) ggX8_heldFrom_X8_place
theorem dX8_heldFrom_0 : decode cX8_heldFrom 0 = .ok (.aload_n 0, 1) := by decide +kernel
theorem dX8_heldFrom_1 : decode cX8_heldFrom 1 = .ok (.getfield 136, 3) := by decide +kernel
theorem dX8_heldFrom_4 : decode cX8_heldFrom 4 = .ok (.ifCond .ne 6, 3) := by decide +kernel
theorem dX8_heldFrom_7 : decode cX8_heldFrom 7 = .ok (.ldc 184, 2) := by decide +kernel
theorem dX8_heldFrom_9 : decode cX8_heldFrom 9 = .ok (.ireturn, 1) := by decide +kernel
theorem dX8_heldFrom_10 : decode cX8_heldFrom 10 = .ok (.aload_n 0, 1) := by decide +kernel
theorem dX8_heldFrom_11 : decode cX8_heldFrom 11 = .ok (.getfield 159, 3) := by decide +kernel
theorem dX8_heldFrom_14 : decode cX8_heldFrom 14 = .ok (.ifCond .eq 6, 3) := by decide +kernel
theorem dX8_heldFrom_17 : decode cX8_heldFrom 17 = .ok (.ldc 237, 2) := by decide +kernel
theorem dX8_heldFrom_19 : decode cX8_heldFrom 19 = .ok (.ireturn, 1) := by decide +kernel
theorem dX8_heldFrom_20 : decode cX8_heldFrom 20 = .ok (.aload_n 0, 1) := by decide +kernel
theorem dX8_heldFrom_21 : decode cX8_heldFrom 21 = .ok (.iconst 1, 1) := by decide +kernel
theorem dX8_heldFrom_22 : decode cX8_heldFrom 22 = .ok (.invokevirtual 238, 3) := by decide +kernel
theorem dX8_heldFrom_25 : decode cX8_heldFrom 25 = .ok (.iconst 1, 1) := by decide +kernel
theorem dX8_heldFrom_26 : decode cX8_heldFrom 26 = .ok (.istore_n 1, 1) := by decide +kernel
theorem dX8_heldFrom_27 : decode cX8_heldFrom 27 = .ok (.iload_n 1, 1) := by decide +kernel
theorem dX8_heldFrom_28 : decode cX8_heldFrom 28 = .ok (.bipush 10, 2) := by decide +kernel
theorem dX8_heldFrom_30 : decode cX8_heldFrom 30 = .ok (.if_icmp .ge 34, 3) := by decide +kernel
theorem dX8_heldFrom_33 : decode cX8_heldFrom 33 = .ok (.aload_n 0, 1) := by decide +kernel
theorem dX8_heldFrom_34 : decode cX8_heldFrom 34 = .ok (.getfield 34, 3) := by decide +kernel
theorem dX8_heldFrom_37 : decode cX8_heldFrom 37 = .ok (.aload_n 0, 1) := by decide +kernel
theorem dX8_heldFrom_38 : decode cX8_heldFrom 38 = .ok (.getfield 150, 3) := by decide +kernel
theorem dX8_heldFrom_41 : decode cX8_heldFrom 41 = .ok (.iload_n 1, 1) := by decide +kernel
theorem dX8_heldFrom_42 : decode cX8_heldFrom 42 = .ok (.aload_n 0, 1) := by decide +kernel
theorem dX8_heldFrom_43 : decode cX8_heldFrom 43 = .ok (.getfield 156, 3) := by decide +kernel
theorem dX8_heldFrom_46 : decode cX8_heldFrom 46 = .ok (.invokestatic 230, 3) := by decide +kernel
theorem dX8_heldFrom_49 : decode cX8_heldFrom 49 = .ok (.iaload, 1) := by decide +kernel
theorem dX8_heldFrom_50 : decode cX8_heldFrom 50 = .ok (.sipush 9999, 3) := by decide +kernel
theorem dX8_heldFrom_53 : decode cX8_heldFrom 53 = .ok (.if_icmp .ge 5, 3) := by decide +kernel
theorem dX8_heldFrom_56 : decode cX8_heldFrom 56 = .ok (.iload_n 1, 1) := by decide +kernel
theorem dX8_heldFrom_57 : decode cX8_heldFrom 57 = .ok (.ireturn, 1) := by decide +kernel
theorem dX8_heldFrom_58 : decode cX8_heldFrom 58 = .ok (.iinc 1 1, 3) := by decide +kernel
theorem dX8_heldFrom_61 : decode cX8_heldFrom 61 = .ok (.goto (-34), 3) := by decide +kernel
theorem dX8_heldFrom_64 : decode cX8_heldFrom 64 = .ok (.ldc 237, 2) := by decide +kernel
theorem dX8_heldFrom_66 : decode cX8_heldFrom 66 = .ok (.ireturn, 1) := by decide +kernel
set_option maxRecDepth 20000 in
theorem ggX8_righted_X8_works : GoodIn wsX8_righted wsX8_works := goodIn_r _ [13, 4, 6, 14, 15, 16, 12, 17, 7, 18, 8, 19, 20, 21, 3, 22, 23, 24, 25, 26, 27, 28, 29, 30, 31, 32, 33, 34, 35, 36, 37, 38, 39, 40, 41, 42, 43, 44, 45, 46, 47, 48, 49, 50, 51, 52, 53, 54, 55, 56, 57, 58, 59, 60, 61, 62, 63, 64, 65, 66, 67, 68, 69, 70, 71, 72, 73, 74, 75, 76, 77, 78, 79, 80, 81, 82, 83, 84, 85, 86, 87, 88, 89, 90, 91, 92, 93, 94, 95, 96, 97, 98, 99, 100, 101, 102, 103] (by decide +kernel) (by decide +kernel)
set_option maxRecDepth 20000 in
theorem gX8_righted_X8_works : GoodIn wsX8_righted (wsV RX8 238 RX8 yX8_works wsX8_works) := goodIn_app (goodIn_of _ (by decide +kernel)) ggX8_righted_X8_works
set_option maxRecDepth 20000 in
theorem ggX8_righted_X8_place : GoodIn wsX8_righted wsX8_place := goodIn_r _ [66] (by decide +kernel) (by decide +kernel)
set_option maxRecDepth 20000 in
theorem gX8_righted_X8_place : GoodIn wsX8_righted (va_wsS RX8 230 yX8_place wsX8_place) := goodIn_app (goodIn_of _ (by decide +kernel)) ggX8_righted_X8_place
theorem dX8_righted_0 : decode cX8_righted 0 = .ok (.aload_n 0, 1) := by decide +kernel
theorem dX8_righted_1 : decode cX8_righted 1 = .ok (.getfield 136, 3) := by decide +kernel
theorem dX8_righted_4 : decode cX8_righted 4 = .ok (.ifCond .ne 6, 3) := by decide +kernel
theorem dX8_righted_7 : decode cX8_righted 7 = .ok (.ldc 184, 2) := by decide +kernel
theorem dX8_righted_9 : decode cX8_righted 9 = .ok (.ireturn, 1) := by decide +kernel
theorem dX8_righted_10 : decode cX8_righted 10 = .ok (.aload_n 0, 1) := by decide +kernel
theorem dX8_righted_11 : decode cX8_righted 11 = .ok (.getfield 159, 3) := by decide +kernel
theorem dX8_righted_14 : decode cX8_righted 14 = .ok (.ifCond .ne 12, 3) := by decide +kernel
theorem dX8_righted_17 : decode cX8_righted 17 = .ok (.aload_n 0, 1) := by decide +kernel
theorem dX8_righted_18 : decode cX8_righted 18 = .ok (.getfield 22, 3) := by decide +kernel
theorem dX8_righted_21 : decode cX8_righted 21 = .ok (.iconst 1, 1) := by decide +kernel
theorem dX8_righted_22 : decode cX8_righted 22 = .ok (.iaload, 1) := by decide +kernel
theorem dX8_righted_23 : decode cX8_righted 23 = .ok (.ifCond .ne 6, 3) := by decide +kernel
theorem dX8_righted_26 : decode cX8_righted 26 = .ok (.ldc 237, 2) := by decide +kernel
theorem dX8_righted_28 : decode cX8_righted 28 = .ok (.ireturn, 1) := by decide +kernel
theorem dX8_righted_29 : decode cX8_righted 29 = .ok (.aload_n 0, 1) := by decide +kernel
theorem dX8_righted_30 : decode cX8_righted 30 = .ok (.iconst 1, 1) := by decide +kernel
theorem dX8_righted_31 : decode cX8_righted 31 = .ok (.invokevirtual 238, 3) := by decide +kernel
theorem dX8_righted_34 : decode cX8_righted 34 = .ok (.iconst 0, 1) := by decide +kernel
theorem dX8_righted_35 : decode cX8_righted 35 = .ok (.istore_n 1, 1) := by decide +kernel
theorem dX8_righted_36 : decode cX8_righted 36 = .ok (.iconst 0, 1) := by decide +kernel
theorem dX8_righted_37 : decode cX8_righted 37 = .ok (.istore_n 2, 1) := by decide +kernel
theorem dX8_righted_38 : decode cX8_righted 38 = .ok (.iload_n 2, 1) := by decide +kernel
theorem dX8_righted_39 : decode cX8_righted 39 = .ok (.aload_n 0, 1) := by decide +kernel
theorem dX8_righted_40 : decode cX8_righted 40 = .ok (.getfield 22, 3) := by decide +kernel
theorem dX8_righted_43 : decode cX8_righted 43 = .ok (.iconst 2, 1) := by decide +kernel
theorem dX8_righted_44 : decode cX8_righted 44 = .ok (.iaload, 1) := by decide +kernel
theorem dX8_righted_45 : decode cX8_righted 45 = .ok (.if_icmp .gt 40, 3) := by decide +kernel
theorem dX8_righted_48 : decode cX8_righted 48 = .ok (.iload_n 1, 1) := by decide +kernel
theorem dX8_righted_49 : decode cX8_righted 49 = .ok (.aload_n 0, 1) := by decide +kernel
theorem dX8_righted_50 : decode cX8_righted 50 = .ok (.getfield 34, 3) := by decide +kernel
theorem dX8_righted_53 : decode cX8_righted 53 = .ok (.aload_n 0, 1) := by decide +kernel
theorem dX8_righted_54 : decode cX8_righted 54 = .ok (.getfield 150, 3) := by decide +kernel
theorem dX8_righted_57 : decode cX8_righted 57 = .ok (.aload_n 0, 1) := by decide +kernel
theorem dX8_righted_58 : decode cX8_righted 58 = .ok (.getfield 153, 3) := by decide +kernel
theorem dX8_righted_61 : decode cX8_righted 61 = .ok (.iload_n 2, 1) := by decide +kernel
theorem dX8_righted_62 : decode cX8_righted 62 = .ok (.invokestatic 230, 3) := by decide +kernel
theorem dX8_righted_65 : decode cX8_righted 65 = .ok (.iaload, 1) := by decide +kernel
theorem dX8_righted_66 : decode cX8_righted 66 = .ok (.sipush 9999, 3) := by decide +kernel
theorem dX8_righted_69 : decode cX8_righted 69 = .ok (.if_icmp .ge 7, 3) := by decide +kernel
theorem dX8_righted_72 : decode cX8_righted 72 = .ok (.iconst 1, 1) := by decide +kernel
theorem dX8_righted_73 : decode cX8_righted 73 = .ok (.goto 4, 3) := by decide +kernel
theorem dX8_righted_76 : decode cX8_righted 76 = .ok (.iconst 0, 1) := by decide +kernel
theorem dX8_righted_77 : decode cX8_righted 77 = .ok (.iadd, 1) := by decide +kernel
theorem dX8_righted_78 : decode cX8_righted 78 = .ok (.istore_n 1, 1) := by decide +kernel
theorem dX8_righted_79 : decode cX8_righted 79 = .ok (.iinc 2 1, 3) := by decide +kernel
theorem dX8_righted_82 : decode cX8_righted 82 = .ok (.goto (-44), 3) := by decide +kernel
theorem dX8_righted_85 : decode cX8_righted 85 = .ok (.iload_n 1, 1) := by decide +kernel
theorem dX8_righted_86 : decode cX8_righted 86 = .ok (.ireturn, 1) := by decide +kernel
set_option maxRecDepth 20000 in
theorem ggX8_areTaps_X8_isTap : GoodIn wsX8_areTaps wsX8_isTap := goodIn_r _ [6, 7, 8, 9, 5, 10, 11, 12, 13, 14, 15, 16, 17, 18, 19, 20, 21, 22, 23, 24, 25, 26, 27, 28, 29, 30, 31, 32, 33, 34, 35, 36, 37, 38, 39, 40, 41, 42, 43] (by decide +kernel) (by decide +kernel)
set_option maxRecDepth 20000 in
theorem gX8_areTaps_X8_isTap : GoodIn wsX8_areTaps (wsV RX8 185 RX8 yX8_isTap wsX8_isTap) := goodIn_app (goodIn_of _ (by decide +kernel)) ggX8_areTaps_X8_isTap
theorem dX8_areTaps_0 : decode cX8_areTaps 0 = .ok (.iconst 0, 1) := by decide +kernel
theorem dX8_areTaps_1 : decode cX8_areTaps 1 = .ok (.istore 4, 2) := by decide +kernel
theorem dX8_areTaps_3 : decode cX8_areTaps 3 = .ok (.iconst 1, 1) := by decide +kernel
theorem dX8_areTaps_4 : decode cX8_areTaps 4 = .ok (.istore 5, 2) := by decide +kernel
theorem dX8_areTaps_6 : decode cX8_areTaps 6 = .ok (.iload_n 1, 1) := by decide +kernel
theorem dX8_areTaps_7 : decode cX8_areTaps 7 = .ok (.istore 6, 2) := by decide +kernel
theorem dX8_areTaps_9 : decode cX8_areTaps 9 = .ok (.iload 6, 2) := by decide +kernel
theorem dX8_areTaps_11 : decode cX8_areTaps 11 = .ok (.iload_n 1, 1) := by decide +kernel
theorem dX8_areTaps_12 : decode cX8_areTaps 12 = .ok (.iload_n 2, 1) := by decide +kernel
theorem dX8_areTaps_13 : decode cX8_areTaps 13 = .ok (.iadd, 1) := by decide +kernel
theorem dX8_areTaps_14 : decode cX8_areTaps 14 = .ok (.if_icmp .ge 67, 3) := by decide +kernel
theorem dX8_areTaps_17 : decode cX8_areTaps 17 = .ok (.iload 5, 2) := by decide +kernel
theorem dX8_areTaps_19 : decode cX8_areTaps 19 = .ok (.ifCond .eq 32, 3) := by decide +kernel
theorem dX8_areTaps_22 : decode cX8_areTaps 22 = .ok (.aload_n 0, 1) := by decide +kernel
theorem dX8_areTaps_23 : decode cX8_areTaps 23 = .ok (.getfield 16, 3) := by decide +kernel
theorem dX8_areTaps_26 : decode cX8_areTaps 26 = .ok (.iload 6, 2) := by decide +kernel
theorem dX8_areTaps_28 : decode cX8_areTaps 28 = .ok (.iaload, 1) := by decide +kernel
theorem dX8_areTaps_29 : decode cX8_areTaps 29 = .ok (.iconst (-1), 1) := by decide +kernel
theorem dX8_areTaps_30 : decode cX8_areTaps 30 = .ok (.if_icmp .eq 17, 3) := by decide +kernel
theorem dX8_areTaps_33 : decode cX8_areTaps 33 = .ok (.aload_n 0, 1) := by decide +kernel
theorem dX8_areTaps_34 : decode cX8_areTaps 34 = .ok (.aload_n 0, 1) := by decide +kernel
theorem dX8_areTaps_35 : decode cX8_areTaps 35 = .ok (.getfield 16, 3) := by decide +kernel
theorem dX8_areTaps_38 : decode cX8_areTaps 38 = .ok (.iload 6, 2) := by decide +kernel
theorem dX8_areTaps_40 : decode cX8_areTaps 40 = .ok (.iaload, 1) := by decide +kernel
theorem dX8_areTaps_41 : decode cX8_areTaps 41 = .ok (.invokevirtual 185, 3) := by decide +kernel
theorem dX8_areTaps_44 : decode cX8_areTaps 44 = .ok (.ifCond .eq 7, 3) := by decide +kernel
theorem dX8_areTaps_47 : decode cX8_areTaps 47 = .ok (.iconst 1, 1) := by decide +kernel
theorem dX8_areTaps_48 : decode cX8_areTaps 48 = .ok (.goto 4, 3) := by decide +kernel
theorem dX8_areTaps_51 : decode cX8_areTaps 51 = .ok (.iconst 0, 1) := by decide +kernel
theorem dX8_areTaps_52 : decode cX8_areTaps 52 = .ok (.istore 5, 2) := by decide +kernel
theorem dX8_areTaps_54 : decode cX8_areTaps 54 = .ok (.iload 4, 2) := by decide +kernel
theorem dX8_areTaps_56 : decode cX8_areTaps 56 = .ok (.aload_n 0, 1) := by decide +kernel
theorem dX8_areTaps_57 : decode cX8_areTaps 57 = .ok (.getfield 16, 3) := by decide +kernel
theorem dX8_areTaps_60 : decode cX8_areTaps 60 = .ok (.iload 6, 2) := by decide +kernel
theorem dX8_areTaps_62 : decode cX8_areTaps 62 = .ok (.iaload, 1) := by decide +kernel
theorem dX8_areTaps_63 : decode cX8_areTaps 63 = .ok (.iconst (-1), 1) := by decide +kernel
theorem dX8_areTaps_64 : decode cX8_areTaps 64 = .ok (.if_icmp .ne 7, 3) := by decide +kernel
theorem dX8_areTaps_67 : decode cX8_areTaps 67 = .ok (.iconst 0, 1) := by decide +kernel
theorem dX8_areTaps_68 : decode cX8_areTaps 68 = .ok (.goto 4, 3) := by decide +kernel
theorem dX8_areTaps_71 : decode cX8_areTaps 71 = .ok (.iconst 1, 1) := by decide +kernel
theorem dX8_areTaps_72 : decode cX8_areTaps 72 = .ok (.iadd, 1) := by decide +kernel
theorem dX8_areTaps_73 : decode cX8_areTaps 73 = .ok (.istore 4, 2) := by decide +kernel
theorem dX8_areTaps_75 : decode cX8_areTaps 75 = .ok (.iinc 6 1, 3) := by decide +kernel
theorem dX8_areTaps_78 : decode cX8_areTaps 78 = .ok (.goto (-69), 3) := by decide +kernel
theorem dX8_areTaps_81 : decode cX8_areTaps 81 = .ok (.iload 5, 2) := by decide +kernel
theorem dX8_areTaps_83 : decode cX8_areTaps 83 = .ok (.ifCond .eq 13, 3) := by decide +kernel
theorem dX8_areTaps_86 : decode cX8_areTaps 86 = .ok (.iload 4, 2) := by decide +kernel
theorem dX8_areTaps_88 : decode cX8_areTaps 88 = .ok (.iload_n 3, 1) := by decide +kernel
theorem dX8_areTaps_89 : decode cX8_areTaps 89 = .ok (.if_icmp .gt 7, 3) := by decide +kernel
theorem dX8_areTaps_92 : decode cX8_areTaps 92 = .ok (.iconst 1, 1) := by decide +kernel
theorem dX8_areTaps_93 : decode cX8_areTaps 93 = .ok (.goto 4, 3) := by decide +kernel
theorem dX8_areTaps_96 : decode cX8_areTaps 96 = .ok (.iconst 0, 1) := by decide +kernel
theorem dX8_areTaps_97 : decode cX8_areTaps 97 = .ok (.ireturn, 1) := by decide +kernel
set_option maxRecDepth 20000 in
theorem ggX8_plan_X8_isRow : GoodIn wsX8_plan wsX8_isRow := goodIn_r _ [10, 11, 12, 13, 9, 14] (by decide +kernel) (by decide +kernel)
set_option maxRecDepth 20000 in
theorem gX8_plan_X8_isRow : GoodIn wsX8_plan (va_wsS RX8 58 yX8_isRow wsX8_isRow) := goodIn_app (goodIn_of _ (by decide +kernel)) ggX8_plan_X8_isRow
set_option maxRecDepth 20000 in
theorem ggX8_plan_X8_in : GoodIn wsX8_plan wsX8_in := goodIn_r _ [14] (by decide +kernel) (by decide +kernel)
set_option maxRecDepth 20000 in
theorem gX8_plan_X8_in : GoodIn wsX8_plan (va_wsS RX8 54 yX8_in wsX8_in) := goodIn_app (goodIn_of _ (by decide +kernel)) ggX8_plan_X8_in
set_option maxRecDepth 20000 in
theorem ggX8_plan_X8_partOf : GoodIn wsX8_plan wsX8_partOf := goodIn_r _ [18, 19, 20, 21, 22, 9, 23, 24, 96, 97, 98, 99, 100, 101, 102, 103, 104, 105, 106, 107, 108, 109, 110, 111, 112, 113, 114, 115, 116, 117, 118, 119, 120, 121, 122, 123, 124, 125, 126, 127, 128] (by decide +kernel) (by decide +kernel)
set_option maxRecDepth 20000 in
theorem gX8_plan_X8_partOf : GoodIn wsX8_plan (wsV RX8 248 RX8 yX8_partOf wsX8_partOf) := goodIn_app (goodIn_of _ (by decide +kernel)) ggX8_plan_X8_partOf
set_option maxRecDepth 20000 in
theorem ggX8_plan_X8_finds : GoodIn wsX8_plan wsX8_finds := goodIn_r _ [28, 29, 30, 96, 97, 98, 99, 100, 101, 102, 103, 104, 105, 106, 107, 108, 109, 110, 111, 112, 113, 114, 115, 116, 117, 118, 119, 120, 121, 122, 123, 124, 125, 126, 127, 128] (by decide +kernel) (by decide +kernel)
set_option maxRecDepth 20000 in
theorem gX8_plan_X8_finds : GoodIn wsX8_plan (wsV RX8 65 RX8 yX8_finds wsX8_finds) := goodIn_app (goodIn_of _ (by decide +kernel)) ggX8_plan_X8_finds
set_option maxRecDepth 20000 in
theorem ggX8_plan_X8_areTaps : GoodIn wsX8_plan wsX8_areTaps := goodIn_r _ [34, 6, 35, 36, 37, 9, 38, 39, 12, 13, 14, 96, 97, 98, 99, 100, 101, 102, 103, 104, 105, 106, 107, 108, 109, 110, 111, 112, 113, 114, 115, 116, 117, 118, 119, 120, 121, 122, 123, 124, 125, 126, 127, 128] (by decide +kernel) (by decide +kernel)
set_option maxRecDepth 20000 in
theorem gX8_plan_X8_areTaps : GoodIn wsX8_plan (wsV RX8 251 RX8 yX8_areTaps wsX8_areTaps) := goodIn_app (goodIn_of _ (by decide +kernel)) ggX8_plan_X8_areTaps
set_option maxRecDepth 20000 in
theorem ggX8_plan_X8_asides : GoodIn wsX8_plan wsX8_asides := goodIn_r _ [43, 44, 45, 46, 47, 48, 49, 5, 50, 51, 52, 96, 97, 98, 99, 100, 101, 102, 103, 104, 105, 106, 107, 108, 109, 110, 111, 112, 113, 114, 115, 116, 117, 118, 119, 120, 121, 122, 123, 124, 125, 126, 127, 128] (by decide +kernel) (by decide +kernel)
set_option maxRecDepth 20000 in
theorem gX8_plan_X8_asides : GoodIn wsX8_plan (wsV RX8 224 RX8 yX8_asides wsX8_asides) := goodIn_app (goodIn_of _ (by decide +kernel)) ggX8_plan_X8_asides
set_option maxRecDepth 20000 in
theorem ggX8_plan_X8_goesWith : GoodIn wsX8_plan wsX8_goesWith := goodIn_r _ [56, 57, 58, 59, 9, 60, 39, 61, 62, 63, 64, 65, 66, 67, 68, 44, 46, 51, 5, 48, 69, 70, 71, 72, 73, 74, 75, 76, 77, 78, 79, 80, 81, 82, 83, 96, 97, 98, 99, 100, 101, 102, 103, 104, 105, 106, 107, 108, 109, 110, 111, 112, 113, 114, 115, 116, 117, 118, 119, 120, 121, 122, 123, 124, 125, 126, 127, 128] (by decide +kernel) (by decide +kernel)
set_option maxRecDepth 20000 in
theorem gX8_plan_X8_goesWith : GoodIn wsX8_plan (wsV RX8 191 RX8 yX8_goesWith wsX8_goesWith) := goodIn_app (goodIn_of _ (by decide +kernel)) ggX8_plan_X8_goesWith
set_option maxRecDepth 20000 in
theorem ggX8_plan_X8_backs : GoodIn wsX8_plan wsX8_backs := goodIn_r _ [87, 45, 47, 49, 50, 52, 51, 88, 89, 90, 9, 91, 44, 46, 48, 5, 96, 97, 98, 99, 100, 101, 102, 103, 104, 105, 106, 107, 108, 109, 110, 111, 112, 113, 114, 115, 116, 117, 118, 119, 120, 121, 122, 123, 124, 125, 126, 127, 128] (by decide +kernel) (by decide +kernel)
set_option maxRecDepth 20000 in
theorem gX8_plan_X8_backs : GoodIn wsX8_plan (wsV RX8 227 RX8 yX8_backs wsX8_backs) := goodIn_app (goodIn_of _ (by decide +kernel)) ggX8_plan_X8_backs
set_option maxRecDepth 20000 in
theorem ggX8_plan_X8_well : GoodIn wsX8_plan wsX8_well := goodIn_r _ [95, 29, 96, 97, 98, 99, 100, 101, 102, 103, 104, 105, 106, 107, 108, 109, 110, 111, 112, 113, 114, 115, 116, 117, 118, 119, 120, 121, 122, 123, 124, 125, 126, 127, 128] (by decide +kernel) (by decide +kernel)
set_option maxRecDepth 20000 in
theorem gX8_plan_X8_well : GoodIn wsX8_plan (wsV RX8 69 RX8 yX8_well wsX8_well) := goodIn_app (goodIn_of _ (by decide +kernel)) ggX8_plan_X8_well
theorem dX8_plan_0 : decode cX8_plan 0 = .ok (.aload_n 0, 1) := by decide +kernel
theorem dX8_plan_1 : decode cX8_plan 1 = .ok (.getfield 136, 3) := by decide +kernel
theorem dX8_plan_4 : decode cX8_plan 4 = .ok (.ifCond .ne 6, 3) := by decide +kernel
theorem dX8_plan_7 : decode cX8_plan 7 = .ok (.ldc 184, 2) := by decide +kernel
theorem dX8_plan_9 : decode cX8_plan 9 = .ok (.ireturn, 1) := by decide +kernel
theorem dX8_plan_10 : decode cX8_plan 10 = .ok (.iload_n 1, 1) := by decide +kernel
theorem dX8_plan_11 : decode cX8_plan 11 = .ok (.invokestatic 58, 3) := by decide +kernel
theorem dX8_plan_14 : decode cX8_plan 14 = .ok (.ifCond .eq 26, 3) := by decide +kernel
theorem dX8_plan_17 : decode cX8_plan 17 = .ok (.iload_n 3, 1) := by decide +kernel
theorem dX8_plan_18 : decode cX8_plan 18 = .ok (.i2l, 1) := by decide +kernel
theorem dX8_plan_19 : decode cX8_plan 19 = .ok (.lconst 0, 1) := by decide +kernel
theorem dX8_plan_20 : decode cX8_plan 20 = .ok (.ldc2_w 246, 3) := by decide +kernel
theorem dX8_plan_23 : decode cX8_plan 23 = .ok (.invokestatic 54, 3) := by decide +kernel
theorem dX8_plan_26 : decode cX8_plan 26 = .ok (.ifCond .eq 14, 3) := by decide +kernel
theorem dX8_plan_29 : decode cX8_plan 29 = .ok (.iload 4, 2) := by decide +kernel
theorem dX8_plan_31 : decode cX8_plan 31 = .ok (.i2l, 1) := by decide +kernel
theorem dX8_plan_32 : decode cX8_plan 32 = .ok (.lconst 0, 1) := by decide +kernel
theorem dX8_plan_33 : decode cX8_plan 33 = .ok (.lconst 1, 1) := by decide +kernel
theorem dX8_plan_34 : decode cX8_plan 34 = .ok (.invokestatic 54, 3) := by decide +kernel
theorem dX8_plan_37 : decode cX8_plan 37 = .ok (.ifCond .ne 6, 3) := by decide +kernel
theorem dX8_plan_40 : decode cX8_plan 40 = .ok (.ldc 64, 2) := by decide +kernel
theorem dX8_plan_42 : decode cX8_plan 42 = .ok (.ireturn, 1) := by decide +kernel
theorem dX8_plan_43 : decode cX8_plan 43 = .ok (.aload_n 0, 1) := by decide +kernel
theorem dX8_plan_44 : decode cX8_plan 44 = .ok (.iload_n 1, 1) := by decide +kernel
theorem dX8_plan_45 : decode cX8_plan 45 = .ok (.iload_n 2, 1) := by decide +kernel
theorem dX8_plan_46 : decode cX8_plan 46 = .ok (.iload_n 3, 1) := by decide +kernel
theorem dX8_plan_47 : decode cX8_plan 47 = .ok (.invokevirtual 248, 3) := by decide +kernel
theorem dX8_plan_50 : decode cX8_plan 50 = .ok (.istore 5, 2) := by decide +kernel
theorem dX8_plan_52 : decode cX8_plan 52 = .ok (.iload 5, 2) := by decide +kernel
theorem dX8_plan_54 : decode cX8_plan 54 = .ok (.ifCond .le 10, 3) := by decide +kernel
theorem dX8_plan_57 : decode cX8_plan 57 = .ok (.aload_n 0, 1) := by decide +kernel
theorem dX8_plan_58 : decode cX8_plan 58 = .ok (.iload 5, 2) := by decide +kernel
theorem dX8_plan_60 : decode cX8_plan 60 = .ok (.invokevirtual 65, 3) := by decide +kernel
theorem dX8_plan_63 : decode cX8_plan 63 = .ok (.ireturn, 1) := by decide +kernel
theorem dX8_plan_64 : decode cX8_plan 64 = .ok (.bipush 40, 2) := by decide +kernel
theorem dX8_plan_66 : decode cX8_plan 66 = .ok (.iload_n 1, 1) := by decide +kernel
theorem dX8_plan_67 : decode cX8_plan 67 = .ok (.imul, 1) := by decide +kernel
theorem dX8_plan_68 : decode cX8_plan 68 = .ok (.iload_n 2, 1) := by decide +kernel
theorem dX8_plan_69 : decode cX8_plan 69 = .ok (.iadd, 1) := by decide +kernel
theorem dX8_plan_70 : decode cX8_plan 70 = .ok (.istore 6, 2) := by decide +kernel
theorem dX8_plan_72 : decode cX8_plan 72 = .ok (.aload_n 0, 1) := by decide +kernel
theorem dX8_plan_73 : decode cX8_plan 73 = .ok (.iload 6, 2) := by decide +kernel
theorem dX8_plan_75 : decode cX8_plan 75 = .ok (.iload_n 3, 1) := by decide +kernel
theorem dX8_plan_76 : decode cX8_plan 76 = .ok (.bipush 24, 2) := by decide +kernel
theorem dX8_plan_78 : decode cX8_plan 78 = .ok (.invokevirtual 251, 3) := by decide +kernel
theorem dX8_plan_81 : decode cX8_plan 81 = .ok (.ifCond .ne 6, 3) := by decide +kernel
theorem dX8_plan_84 : decode cX8_plan 84 = .ok (.ldc 64, 2) := by decide +kernel
theorem dX8_plan_86 : decode cX8_plan 86 = .ok (.ireturn, 1) := by decide +kernel
theorem dX8_plan_87 : decode cX8_plan 87 = .ok (.aload_n 0, 1) := by decide +kernel
theorem dX8_plan_88 : decode cX8_plan 88 = .ok (.invokevirtual 224, 3) := by decide +kernel
theorem dX8_plan_91 : decode cX8_plan 91 = .ok (.iconst 0, 1) := by decide +kernel
theorem dX8_plan_92 : decode cX8_plan 92 = .ok (.istore 7, 2) := by decide +kernel
theorem dX8_plan_94 : decode cX8_plan 94 = .ok (.iload 7, 2) := by decide +kernel
theorem dX8_plan_96 : decode cX8_plan 96 = .ok (.iload_n 3, 1) := by decide +kernel
theorem dX8_plan_97 : decode cX8_plan 97 = .ok (.if_icmp .ge 30, 3) := by decide +kernel
theorem dX8_plan_100 : decode cX8_plan 100 = .ok (.aload_n 0, 1) := by decide +kernel
theorem dX8_plan_101 : decode cX8_plan 101 = .ok (.getfield 159, 3) := by decide +kernel
theorem dX8_plan_104 : decode cX8_plan 104 = .ok (.ifCond .ne 23, 3) := by decide +kernel
theorem dX8_plan_107 : decode cX8_plan 107 = .ok (.aload_n 0, 1) := by decide +kernel
theorem dX8_plan_108 : decode cX8_plan 108 = .ok (.aload_n 0, 1) := by decide +kernel
theorem dX8_plan_109 : decode cX8_plan 109 = .ok (.getfield 16, 3) := by decide +kernel
theorem dX8_plan_112 : decode cX8_plan 112 = .ok (.iload 6, 2) := by decide +kernel
theorem dX8_plan_114 : decode cX8_plan 114 = .ok (.iload 7, 2) := by decide +kernel
theorem dX8_plan_116 : decode cX8_plan 116 = .ok (.iadd, 1) := by decide +kernel
theorem dX8_plan_117 : decode cX8_plan 117 = .ok (.iaload, 1) := by decide +kernel
theorem dX8_plan_118 : decode cX8_plan 118 = .ok (.invokevirtual 191, 3) := by decide +kernel
theorem dX8_plan_121 : decode cX8_plan 121 = .ok (.iinc 7 1, 3) := by decide +kernel
theorem dX8_plan_124 : decode cX8_plan 124 = .ok (.goto (-30), 3) := by decide +kernel
theorem dX8_plan_127 : decode cX8_plan 127 = .ok (.aload_n 0, 1) := by decide +kernel
theorem dX8_plan_128 : decode cX8_plan 128 = .ok (.getfield 159, 3) := by decide +kernel
theorem dX8_plan_131 : decode cX8_plan 131 = .ok (.istore 8, 2) := by decide +kernel
theorem dX8_plan_133 : decode cX8_plan 133 = .ok (.aload_n 0, 1) := by decide +kernel
theorem dX8_plan_134 : decode cX8_plan 134 = .ok (.invokevirtual 227, 3) := by decide +kernel
theorem dX8_plan_137 : decode cX8_plan 137 = .ok (.aload_n 0, 1) := by decide +kernel
theorem dX8_plan_138 : decode cX8_plan 138 = .ok (.iload 4, 2) := by decide +kernel
theorem dX8_plan_140 : decode cX8_plan 140 = .ok (.ifCond .ne 8, 3) := by decide +kernel
theorem dX8_plan_143 : decode cX8_plan 143 = .ok (.iload 7, 2) := by decide +kernel
theorem dX8_plan_145 : decode cX8_plan 145 = .ok (.goto 5, 3) := by decide +kernel
theorem dX8_plan_148 : decode cX8_plan 148 = .ok (.iload 8, 2) := by decide +kernel
theorem dX8_plan_150 : decode cX8_plan 150 = .ok (.invokevirtual 69, 3) := by decide +kernel
theorem dX8_plan_153 : decode cX8_plan 153 = .ok (.ireturn, 1) := by decide +kernel
set_option maxRecDepth 20000 in
theorem ggX8_isSeen_X8_goes : GoodIn wsX8_isSeen wsX8_goes := goodIn_r _ [8, 2, 9, 10, 11, 1, 12, 13, 14, 15, 7, 16, 17, 18, 19, 20, 21, 22, 23, 24, 25, 26, 27, 28, 29, 30, 31, 32, 33, 34, 35, 36, 37, 38, 39, 40, 41, 42, 43, 44, 45, 46, 47, 48, 49, 50, 51, 52, 53, 54, 55, 56, 57, 58, 59, 60] (by decide +kernel) (by decide +kernel)
set_option maxRecDepth 20000 in
theorem gX8_isSeen_X8_goes : GoodIn wsX8_isSeen (wsV RX8 181 RX8 yX8_goes wsX8_goes) := goodIn_app (goodIn_of _ (by decide +kernel)) ggX8_isSeen_X8_goes
theorem dX8_isSeen_0 : decode cX8_isSeen 0 = .ok (.iconst 1, 1) := by decide +kernel
theorem dX8_isSeen_1 : decode cX8_isSeen 1 = .ok (.istore 5, 2) := by decide +kernel
theorem dX8_isSeen_3 : decode cX8_isSeen 3 = .ok (.iconst 0, 1) := by decide +kernel
theorem dX8_isSeen_4 : decode cX8_isSeen 4 = .ok (.istore 6, 2) := by decide +kernel
theorem dX8_isSeen_6 : decode cX8_isSeen 6 = .ok (.iload 6, 2) := by decide +kernel
theorem dX8_isSeen_8 : decode cX8_isSeen 8 = .ok (.iload_n 2, 1) := by decide +kernel
theorem dX8_isSeen_9 : decode cX8_isSeen 9 = .ok (.if_icmp .ge 60, 3) := by decide +kernel
theorem dX8_isSeen_12 : decode cX8_isSeen 12 = .ok (.aload_n 0, 1) := by decide +kernel
theorem dX8_isSeen_13 : decode cX8_isSeen 13 = .ok (.getfield 159, 3) := by decide +kernel
theorem dX8_isSeen_16 : decode cX8_isSeen 16 = .ok (.ifCond .ne 19, 3) := by decide +kernel
theorem dX8_isSeen_19 : decode cX8_isSeen 19 = .ok (.aload_n 0, 1) := by decide +kernel
theorem dX8_isSeen_20 : decode cX8_isSeen 20 = .ok (.iload 6, 2) := by decide +kernel
theorem dX8_isSeen_22 : decode cX8_isSeen 22 = .ok (.ifCond .ne 7, 3) := by decide +kernel
theorem dX8_isSeen_25 : decode cX8_isSeen 25 = .ok (.iload_n 3, 1) := by decide +kernel
theorem dX8_isSeen_26 : decode cX8_isSeen 26 = .ok (.goto 4, 3) := by decide +kernel
theorem dX8_isSeen_29 : decode cX8_isSeen 29 = .ok (.iconst 0, 1) := by decide +kernel
theorem dX8_isSeen_30 : decode cX8_isSeen 30 = .ok (.iload 4, 2) := by decide +kernel
theorem dX8_isSeen_32 : decode cX8_isSeen 32 = .ok (.invokevirtual 181, 3) := by decide +kernel
theorem dX8_isSeen_35 : decode cX8_isSeen 35 = .ok (.iload 5, 2) := by decide +kernel
theorem dX8_isSeen_37 : decode cX8_isSeen 37 = .ok (.ifCond .eq 23, 3) := by decide +kernel
theorem dX8_isSeen_40 : decode cX8_isSeen 40 = .ok (.aload_n 0, 1) := by decide +kernel
theorem dX8_isSeen_41 : decode cX8_isSeen 41 = .ok (.getfield 150, 3) := by decide +kernel
theorem dX8_isSeen_44 : decode cX8_isSeen 44 = .ok (.aload_n 0, 1) := by decide +kernel
theorem dX8_isSeen_45 : decode cX8_isSeen 45 = .ok (.getfield 16, 3) := by decide +kernel
theorem dX8_isSeen_48 : decode cX8_isSeen 48 = .ok (.iload_n 1, 1) := by decide +kernel
theorem dX8_isSeen_49 : decode cX8_isSeen 49 = .ok (.iload 6, 2) := by decide +kernel
theorem dX8_isSeen_51 : decode cX8_isSeen 51 = .ok (.iadd, 1) := by decide +kernel
theorem dX8_isSeen_52 : decode cX8_isSeen 52 = .ok (.iaload, 1) := by decide +kernel
theorem dX8_isSeen_53 : decode cX8_isSeen 53 = .ok (.if_icmp .ne 7, 3) := by decide +kernel
theorem dX8_isSeen_56 : decode cX8_isSeen 56 = .ok (.iconst 1, 1) := by decide +kernel
theorem dX8_isSeen_57 : decode cX8_isSeen 57 = .ok (.goto 4, 3) := by decide +kernel
theorem dX8_isSeen_60 : decode cX8_isSeen 60 = .ok (.iconst 0, 1) := by decide +kernel
theorem dX8_isSeen_61 : decode cX8_isSeen 61 = .ok (.istore 5, 2) := by decide +kernel
theorem dX8_isSeen_63 : decode cX8_isSeen 63 = .ok (.iinc 6 1, 3) := by decide +kernel
theorem dX8_isSeen_66 : decode cX8_isSeen 66 = .ok (.goto (-60), 3) := by decide +kernel
theorem dX8_isSeen_69 : decode cX8_isSeen 69 = .ok (.iload 5, 2) := by decide +kernel
theorem dX8_isSeen_71 : decode cX8_isSeen 71 = .ok (.ireturn, 1) := by decide +kernel
set_option maxRecDepth 20000 in
theorem ggX8_seen_X8_isRow : GoodIn wsX8_seen wsX8_isRow := goodIn_r _ [12, 13, 14, 15, 11, 16] (by decide +kernel) (by decide +kernel)
set_option maxRecDepth 20000 in
theorem gX8_seen_X8_isRow : GoodIn wsX8_seen (va_wsS RX8 58 yX8_isRow wsX8_isRow) := goodIn_app (goodIn_of _ (by decide +kernel)) ggX8_seen_X8_isRow
set_option maxRecDepth 20000 in
theorem ggX8_seen_X8_in : GoodIn wsX8_seen wsX8_in := goodIn_r _ [16] (by decide +kernel) (by decide +kernel)
set_option maxRecDepth 20000 in
theorem gX8_seen_X8_in : GoodIn wsX8_seen (va_wsS RX8 54 yX8_in wsX8_in) := goodIn_app (goodIn_of _ (by decide +kernel)) ggX8_seen_X8_in
set_option maxRecDepth 20000 in
theorem ggX8_seen_X8_partOf : GoodIn wsX8_seen wsX8_partOf := goodIn_r _ [20, 21, 22, 23, 24, 11, 25, 26, 80, 81, 82, 83, 84, 85, 86, 87, 88, 89, 90, 91, 92, 93, 94, 95, 96, 97, 98, 99, 100, 101, 102, 103, 104, 105, 106, 107, 108, 109, 110, 111, 112] (by decide +kernel) (by decide +kernel)
set_option maxRecDepth 20000 in
theorem gX8_seen_X8_partOf : GoodIn wsX8_seen (wsV RX8 248 RX8 yX8_partOf wsX8_partOf) := goodIn_app (goodIn_of _ (by decide +kernel)) ggX8_seen_X8_partOf
set_option maxRecDepth 20000 in
theorem ggX8_seen_X8_finds : GoodIn wsX8_seen wsX8_finds := goodIn_r _ [30, 31, 32, 80, 81, 82, 83, 84, 85, 86, 87, 88, 89, 90, 91, 92, 93, 94, 95, 96, 97, 98, 99, 100, 101, 102, 103, 104, 105, 106, 107, 108, 109, 110, 111, 112] (by decide +kernel) (by decide +kernel)
set_option maxRecDepth 20000 in
theorem gX8_seen_X8_finds : GoodIn wsX8_seen (wsV RX8 65 RX8 yX8_finds wsX8_finds) := goodIn_app (goodIn_of _ (by decide +kernel)) ggX8_seen_X8_finds
set_option maxRecDepth 20000 in
theorem ggX8_seen_X8_asides : GoodIn wsX8_seen wsX8_asides := goodIn_r _ [36, 37, 38, 7, 39, 8, 40, 5, 41, 42, 43, 80, 81, 82, 83, 84, 85, 86, 87, 88, 89, 90, 91, 92, 93, 94, 95, 96, 97, 98, 99, 100, 101, 102, 103, 104, 105, 106, 107, 108, 109, 110, 111, 112] (by decide +kernel) (by decide +kernel)
set_option maxRecDepth 20000 in
theorem gX8_seen_X8_asides : GoodIn wsX8_seen (wsV RX8 224 RX8 yX8_asides wsX8_asides) := goodIn_app (goodIn_of _ (by decide +kernel)) ggX8_seen_X8_asides
set_option maxRecDepth 20000 in
theorem ggX8_seen_X8_isSeen : GoodIn wsX8_seen wsX8_isSeen := goodIn_r _ [47, 5, 37, 48, 49, 50, 51, 11, 52, 7, 42, 6, 8, 53, 54, 55, 56, 57, 58, 59, 60, 61, 62, 63, 64, 65, 66, 67, 80, 81, 82, 83, 84, 85, 86, 87, 88, 89, 90, 91, 92, 93, 94, 95, 96, 97, 98, 99, 100, 101, 102, 103, 104, 105, 106, 107, 108, 109, 110, 111, 112] (by decide +kernel) (by decide +kernel)
set_option maxRecDepth 20000 in
theorem gX8_seen_X8_isSeen : GoodIn wsX8_seen (wsV RX8 256 RX8 yX8_isSeen wsX8_isSeen) := goodIn_app (goodIn_of _ (by decide +kernel)) ggX8_seen_X8_isSeen
set_option maxRecDepth 20000 in
theorem ggX8_seen_X8_backs : GoodIn wsX8_seen wsX8_backs := goodIn_r _ [71, 38, 39, 40, 41, 43, 42, 72, 73, 74, 11, 75, 37, 7, 8, 5, 80, 81, 82, 83, 84, 85, 86, 87, 88, 89, 90, 91, 92, 93, 94, 95, 96, 97, 98, 99, 100, 101, 102, 103, 104, 105, 106, 107, 108, 109, 110, 111, 112] (by decide +kernel) (by decide +kernel)
set_option maxRecDepth 20000 in
theorem gX8_seen_X8_backs : GoodIn wsX8_seen (wsV RX8 227 RX8 yX8_backs wsX8_backs) := goodIn_app (goodIn_of _ (by decide +kernel)) ggX8_seen_X8_backs
set_option maxRecDepth 20000 in
theorem ggX8_seen_X8_well : GoodIn wsX8_seen wsX8_well := goodIn_r _ [79, 31, 80, 81, 82, 83, 84, 85, 86, 87, 88, 89, 90, 91, 92, 93, 94, 95, 96, 97, 98, 99, 100, 101, 102, 103, 104, 105, 106, 107, 108, 109, 110, 111, 112] (by decide +kernel) (by decide +kernel)
set_option maxRecDepth 20000 in
theorem gX8_seen_X8_well : GoodIn wsX8_seen (wsV RX8 69 RX8 yX8_well wsX8_well) := goodIn_app (goodIn_of _ (by decide +kernel)) ggX8_seen_X8_well
theorem dX8_seen_0 : decode cX8_seen 0 = .ok (.aload_n 0, 1) := by decide +kernel
theorem dX8_seen_1 : decode cX8_seen 1 = .ok (.getfield 136, 3) := by decide +kernel
theorem dX8_seen_4 : decode cX8_seen 4 = .ok (.ifCond .ne 6, 3) := by decide +kernel
theorem dX8_seen_7 : decode cX8_seen 7 = .ok (.ldc 184, 2) := by decide +kernel
theorem dX8_seen_9 : decode cX8_seen 9 = .ok (.ireturn, 1) := by decide +kernel
theorem dX8_seen_10 : decode cX8_seen 10 = .ok (.iload_n 1, 1) := by decide +kernel
theorem dX8_seen_11 : decode cX8_seen 11 = .ok (.invokestatic 58, 3) := by decide +kernel
theorem dX8_seen_14 : decode cX8_seen 14 = .ok (.ifCond .eq 26, 3) := by decide +kernel
theorem dX8_seen_17 : decode cX8_seen 17 = .ok (.iload_n 3, 1) := by decide +kernel
theorem dX8_seen_18 : decode cX8_seen 18 = .ok (.i2l, 1) := by decide +kernel
theorem dX8_seen_19 : decode cX8_seen 19 = .ok (.lconst 1, 1) := by decide +kernel
theorem dX8_seen_20 : decode cX8_seen 20 = .ok (.ldc2_w 254, 3) := by decide +kernel
theorem dX8_seen_23 : decode cX8_seen 23 = .ok (.invokestatic 54, 3) := by decide +kernel
theorem dX8_seen_26 : decode cX8_seen 26 = .ok (.ifCond .eq 14, 3) := by decide +kernel
theorem dX8_seen_29 : decode cX8_seen 29 = .ok (.iload 4, 2) := by decide +kernel
theorem dX8_seen_31 : decode cX8_seen 31 = .ok (.i2l, 1) := by decide +kernel
theorem dX8_seen_32 : decode cX8_seen 32 = .ok (.lconst 0, 1) := by decide +kernel
theorem dX8_seen_33 : decode cX8_seen 33 = .ok (.lconst 1, 1) := by decide +kernel
theorem dX8_seen_34 : decode cX8_seen 34 = .ok (.invokestatic 54, 3) := by decide +kernel
theorem dX8_seen_37 : decode cX8_seen 37 = .ok (.ifCond .ne 6, 3) := by decide +kernel
theorem dX8_seen_40 : decode cX8_seen 40 = .ok (.ldc 64, 2) := by decide +kernel
theorem dX8_seen_42 : decode cX8_seen 42 = .ok (.ireturn, 1) := by decide +kernel
theorem dX8_seen_43 : decode cX8_seen 43 = .ok (.aload_n 0, 1) := by decide +kernel
theorem dX8_seen_44 : decode cX8_seen 44 = .ok (.getfield 159, 3) := by decide +kernel
theorem dX8_seen_47 : decode cX8_seen 47 = .ok (.ifCond .eq 6, 3) := by decide +kernel
theorem dX8_seen_50 : decode cX8_seen 50 = .ok (.ldc 184, 2) := by decide +kernel
theorem dX8_seen_52 : decode cX8_seen 52 = .ok (.ireturn, 1) := by decide +kernel
theorem dX8_seen_53 : decode cX8_seen 53 = .ok (.aload_n 0, 1) := by decide +kernel
theorem dX8_seen_54 : decode cX8_seen 54 = .ok (.iload_n 1, 1) := by decide +kernel
theorem dX8_seen_55 : decode cX8_seen 55 = .ok (.iload_n 2, 1) := by decide +kernel
theorem dX8_seen_56 : decode cX8_seen 56 = .ok (.iload_n 3, 1) := by decide +kernel
theorem dX8_seen_57 : decode cX8_seen 57 = .ok (.invokevirtual 248, 3) := by decide +kernel
theorem dX8_seen_60 : decode cX8_seen 60 = .ok (.istore 5, 2) := by decide +kernel
theorem dX8_seen_62 : decode cX8_seen 62 = .ok (.iload 5, 2) := by decide +kernel
theorem dX8_seen_64 : decode cX8_seen 64 = .ok (.ifCond .le 10, 3) := by decide +kernel
theorem dX8_seen_67 : decode cX8_seen 67 = .ok (.aload_n 0, 1) := by decide +kernel
theorem dX8_seen_68 : decode cX8_seen 68 = .ok (.iload 5, 2) := by decide +kernel
theorem dX8_seen_70 : decode cX8_seen 70 = .ok (.invokevirtual 65, 3) := by decide +kernel
theorem dX8_seen_73 : decode cX8_seen 73 = .ok (.ireturn, 1) := by decide +kernel
theorem dX8_seen_74 : decode cX8_seen 74 = .ok (.aload_n 0, 1) := by decide +kernel
theorem dX8_seen_75 : decode cX8_seen 75 = .ok (.invokevirtual 224, 3) := by decide +kernel
theorem dX8_seen_78 : decode cX8_seen 78 = .ok (.iconst 0, 1) := by decide +kernel
theorem dX8_seen_79 : decode cX8_seen 79 = .ok (.istore 6, 2) := by decide +kernel
theorem dX8_seen_81 : decode cX8_seen 81 = .ok (.iload 4, 2) := by decide +kernel
theorem dX8_seen_83 : decode cX8_seen 83 = .ok (.ifCond .ne 7, 3) := by decide +kernel
theorem dX8_seen_86 : decode cX8_seen 86 = .ok (.iconst 1, 1) := by decide +kernel
theorem dX8_seen_87 : decode cX8_seen 87 = .ok (.goto 10, 3) := by decide +kernel
theorem dX8_seen_90 : decode cX8_seen 90 = .ok (.aload_n 0, 1) := by decide +kernel
theorem dX8_seen_91 : decode cX8_seen 91 = .ok (.getfield 22, 3) := by decide +kernel
theorem dX8_seen_94 : decode cX8_seen 94 = .ok (.iconst 2, 1) := by decide +kernel
theorem dX8_seen_95 : decode cX8_seen 95 = .ok (.iaload, 1) := by decide +kernel
theorem dX8_seen_96 : decode cX8_seen 96 = .ok (.ineg, 1) := by decide +kernel
theorem dX8_seen_97 : decode cX8_seen 97 = .ok (.istore 7, 2) := by decide +kernel
theorem dX8_seen_99 : decode cX8_seen 99 = .ok (.iload 7, 2) := by decide +kernel
theorem dX8_seen_101 : decode cX8_seen 101 = .ok (.iload 4, 2) := by decide +kernel
theorem dX8_seen_103 : decode cX8_seen 103 = .ok (.ifCond .ne 8, 3) := by decide +kernel
theorem dX8_seen_106 : decode cX8_seen 106 = .ok (.bipush 9, 2) := by decide +kernel
theorem dX8_seen_108 : decode cX8_seen 108 = .ok (.goto 9, 3) := by decide +kernel
theorem dX8_seen_111 : decode cX8_seen 111 = .ok (.aload_n 0, 1) := by decide +kernel
theorem dX8_seen_112 : decode cX8_seen 112 = .ok (.getfield 22, 3) := by decide +kernel
theorem dX8_seen_115 : decode cX8_seen 115 = .ok (.iconst 2, 1) := by decide +kernel
theorem dX8_seen_116 : decode cX8_seen 116 = .ok (.iaload, 1) := by decide +kernel
theorem dX8_seen_117 : decode cX8_seen 117 = .ok (.if_icmp .gt 89, 3) := by decide +kernel
theorem dX8_seen_120 : decode cX8_seen 120 = .ok (.aload_n 0, 1) := by decide +kernel
theorem dX8_seen_121 : decode cX8_seen 121 = .ok (.iload 4, 2) := by decide +kernel
theorem dX8_seen_123 : decode cX8_seen 123 = .ok (.ifCond .ne 8, 3) := by decide +kernel
theorem dX8_seen_126 : decode cX8_seen 126 = .ok (.iload 7, 2) := by decide +kernel
theorem dX8_seen_128 : decode cX8_seen 128 = .ok (.goto 7, 3) := by decide +kernel
theorem dX8_seen_131 : decode cX8_seen 131 = .ok (.aload_n 0, 1) := by decide +kernel
theorem dX8_seen_132 : decode cX8_seen 132 = .ok (.getfield 153, 3) := by decide +kernel
theorem dX8_seen_135 : decode cX8_seen 135 = .ok (.putfield 153, 3) := by decide +kernel
theorem dX8_seen_138 : decode cX8_seen 138 = .ok (.aload_n 0, 1) := by decide +kernel
theorem dX8_seen_139 : decode cX8_seen 139 = .ok (.iload 4, 2) := by decide +kernel
theorem dX8_seen_141 : decode cX8_seen 141 = .ok (.ifCond .ne 10, 3) := by decide +kernel
theorem dX8_seen_144 : decode cX8_seen 144 = .ok (.aload_n 0, 1) := by decide +kernel
theorem dX8_seen_145 : decode cX8_seen 145 = .ok (.getfield 156, 3) := by decide +kernel
theorem dX8_seen_148 : decode cX8_seen 148 = .ok (.goto 5, 3) := by decide +kernel
theorem dX8_seen_151 : decode cX8_seen 151 = .ok (.iload 7, 2) := by decide +kernel
theorem dX8_seen_153 : decode cX8_seen 153 = .ok (.putfield 156, 3) := by decide +kernel
theorem dX8_seen_156 : decode cX8_seen 156 = .ok (.iload 6, 2) := by decide +kernel
theorem dX8_seen_158 : decode cX8_seen 158 = .ok (.aload_n 0, 1) := by decide +kernel
theorem dX8_seen_159 : decode cX8_seen 159 = .ok (.bipush 40, 2) := by decide +kernel
theorem dX8_seen_161 : decode cX8_seen 161 = .ok (.iload_n 1, 1) := by decide +kernel
theorem dX8_seen_162 : decode cX8_seen 162 = .ok (.imul, 1) := by decide +kernel
theorem dX8_seen_163 : decode cX8_seen 163 = .ok (.iload_n 2, 1) := by decide +kernel
theorem dX8_seen_164 : decode cX8_seen 164 = .ok (.iadd, 1) := by decide +kernel
theorem dX8_seen_165 : decode cX8_seen 165 = .ok (.iload_n 3, 1) := by decide +kernel
theorem dX8_seen_166 : decode cX8_seen 166 = .ok (.iconst 0, 1) := by decide +kernel
theorem dX8_seen_167 : decode cX8_seen 167 = .ok (.iconst 0, 1) := by decide +kernel
theorem dX8_seen_168 : decode cX8_seen 168 = .ok (.invokevirtual 256, 3) := by decide +kernel
theorem dX8_seen_171 : decode cX8_seen 171 = .ok (.ifCond .eq 21, 3) := by decide +kernel
theorem dX8_seen_174 : decode cX8_seen 174 = .ok (.iconst 1, 1) := by decide +kernel
theorem dX8_seen_175 : decode cX8_seen 175 = .ok (.iload 7, 2) := by decide +kernel
theorem dX8_seen_177 : decode cX8_seen 177 = .ok (.iload 4, 2) := by decide +kernel
theorem dX8_seen_179 : decode cX8_seen 179 = .ok (.ifCond .ne 7, 3) := by decide +kernel
theorem dX8_seen_182 : decode cX8_seen 182 = .ok (.iconst 0, 1) := by decide +kernel
theorem dX8_seen_183 : decode cX8_seen 183 = .ok (.goto 4, 3) := by decide +kernel
theorem dX8_seen_186 : decode cX8_seen 186 = .ok (.iconst 5, 1) := by decide +kernel
theorem dX8_seen_187 : decode cX8_seen 187 = .ok (.iadd, 1) := by decide +kernel
theorem dX8_seen_188 : decode cX8_seen 188 = .ok (.ishl, 1) := by decide +kernel
theorem dX8_seen_189 : decode cX8_seen 189 = .ok (.goto 4, 3) := by decide +kernel
theorem dX8_seen_192 : decode cX8_seen 192 = .ok (.iconst 0, 1) := by decide +kernel
theorem dX8_seen_193 : decode cX8_seen 193 = .ok (.ior, 1) := by decide +kernel
theorem dX8_seen_194 : decode cX8_seen 194 = .ok (.istore 6, 2) := by decide +kernel
theorem dX8_seen_196 : decode cX8_seen 196 = .ok (.aload_n 0, 1) := by decide +kernel
theorem dX8_seen_197 : decode cX8_seen 197 = .ok (.invokevirtual 227, 3) := by decide +kernel
theorem dX8_seen_200 : decode cX8_seen 200 = .ok (.iinc 7 1, 3) := by decide +kernel
theorem dX8_seen_203 : decode cX8_seen 203 = .ok (.goto (-104), 3) := by decide +kernel
theorem dX8_seen_206 : decode cX8_seen 206 = .ok (.aload_n 0, 1) := by decide +kernel
theorem dX8_seen_207 : decode cX8_seen 207 = .ok (.iload 6, 2) := by decide +kernel
theorem dX8_seen_209 : decode cX8_seen 209 = .ok (.invokevirtual 69, 3) := by decide +kernel
theorem dX8_seen_212 : decode cX8_seen 212 = .ok (.ireturn, 1) := by decide +kernel
set_option maxRecDepth 20000 in
theorem ggX8_who_X8_isTap : GoodIn wsX8_who wsX8_isTap := goodIn_r _ [9, 10, 11, 12, 8, 13, 87, 88, 89, 90, 91, 92, 93, 94, 95, 96, 97, 98, 99, 100, 101, 102, 103, 104, 105, 106, 107, 108, 109, 110, 111, 112, 113, 114, 115, 116, 117, 118, 119] (by decide +kernel) (by decide +kernel)
set_option maxRecDepth 20000 in
theorem gX8_who_X8_isTap : GoodIn wsX8_who (wsV RX8 185 RX8 yX8_isTap wsX8_isTap) := goodIn_app (goodIn_of _ (by decide +kernel)) ggX8_who_X8_isTap
set_option maxRecDepth 20000 in
theorem ggX8_who_X8_isRow : GoodIn wsX8_who wsX8_isRow := goodIn_r _ [16, 17, 11, 12, 8, 13] (by decide +kernel) (by decide +kernel)
set_option maxRecDepth 20000 in
theorem gX8_who_X8_isRow : GoodIn wsX8_who (va_wsS RX8 58 yX8_isRow wsX8_isRow) := goodIn_app (goodIn_of _ (by decide +kernel)) ggX8_who_X8_isRow
set_option maxRecDepth 20000 in
theorem ggX8_who_X8_in : GoodIn wsX8_who wsX8_in := goodIn_r _ [13] (by decide +kernel) (by decide +kernel)
set_option maxRecDepth 20000 in
theorem gX8_who_X8_in : GoodIn wsX8_who (va_wsS RX8 54 yX8_in wsX8_in) := goodIn_app (goodIn_of _ (by decide +kernel)) ggX8_who_X8_in
set_option maxRecDepth 20000 in
theorem ggX8_who_X8_partOf : GoodIn wsX8_who wsX8_partOf := goodIn_r _ [21, 22, 23, 24, 25, 8, 26, 27, 87, 88, 89, 90, 91, 92, 93, 94, 95, 96, 97, 98, 99, 100, 101, 102, 103, 104, 105, 106, 107, 108, 109, 110, 111, 112, 113, 114, 115, 116, 117, 118, 119] (by decide +kernel) (by decide +kernel)
set_option maxRecDepth 20000 in
theorem gX8_who_X8_partOf : GoodIn wsX8_who (wsV RX8 248 RX8 yX8_partOf wsX8_partOf) := goodIn_app (goodIn_of _ (by decide +kernel)) ggX8_who_X8_partOf
set_option maxRecDepth 20000 in
theorem ggX8_who_X8_finds : GoodIn wsX8_who wsX8_finds := goodIn_r _ [31, 32, 33, 87, 88, 89, 90, 91, 92, 93, 94, 95, 96, 97, 98, 99, 100, 101, 102, 103, 104, 105, 106, 107, 108, 109, 110, 111, 112, 113, 114, 115, 116, 117, 118, 119] (by decide +kernel) (by decide +kernel)
set_option maxRecDepth 20000 in
theorem gX8_who_X8_finds : GoodIn wsX8_who (wsV RX8 65 RX8 yX8_finds wsX8_finds) := goodIn_app (goodIn_of _ (by decide +kernel)) ggX8_who_X8_finds
set_option maxRecDepth 20000 in
theorem ggX8_who_X8_asides : GoodIn wsX8_who wsX8_asides := goodIn_r _ [37, 38, 39, 40, 41, 42, 43, 3, 44, 45, 46, 87, 88, 89, 90, 91, 92, 93, 94, 95, 96, 97, 98, 99, 100, 101, 102, 103, 104, 105, 106, 107, 108, 109, 110, 111, 112, 113, 114, 115, 116, 117, 118, 119] (by decide +kernel) (by decide +kernel)
set_option maxRecDepth 20000 in
theorem gX8_who_X8_asides : GoodIn wsX8_who (wsV RX8 224 RX8 yX8_asides wsX8_asides) := goodIn_app (goodIn_of _ (by decide +kernel)) ggX8_who_X8_asides
set_option maxRecDepth 20000 in
theorem ggX8_who_X8_forceAt : GoodIn wsX8_who wsX8_forceAt := goodIn_r _ [50, 10, 87, 88, 89, 90, 91, 92, 93, 94, 95, 96, 97, 98, 99, 100, 101, 102, 103, 104, 105, 106, 107, 108, 109, 110, 111, 112, 113, 114, 115, 116, 117, 118, 119] (by decide +kernel) (by decide +kernel)
set_option maxRecDepth 20000 in
theorem gX8_who_X8_forceAt : GoodIn wsX8_who (wsV RX8 178 RX8 yX8_forceAt wsX8_forceAt) := goodIn_app (goodIn_of _ (by decide +kernel)) ggX8_who_X8_forceAt
set_option maxRecDepth 20000 in
theorem ggX8_who_X8_isSeen : GoodIn wsX8_who wsX8_isSeen := goodIn_r _ [54, 3, 38, 55, 56, 57, 58, 8, 59, 40, 45, 10, 42, 60, 61, 62, 63, 64, 65, 66, 67, 68, 69, 70, 71, 72, 73, 74, 87, 88, 89, 90, 91, 92, 93, 94, 95, 96, 97, 98, 99, 100, 101, 102, 103, 104, 105, 106, 107, 108, 109, 110, 111, 112, 113, 114, 115, 116, 117, 118, 119] (by decide +kernel) (by decide +kernel)
set_option maxRecDepth 20000 in
theorem gX8_who_X8_isSeen : GoodIn wsX8_who (wsV RX8 256 RX8 yX8_isSeen wsX8_isSeen) := goodIn_app (goodIn_of _ (by decide +kernel)) ggX8_who_X8_isSeen
set_option maxRecDepth 20000 in
theorem ggX8_who_X8_backs : GoodIn wsX8_who wsX8_backs := goodIn_r _ [78, 39, 41, 43, 44, 46, 45, 79, 80, 81, 8, 82, 38, 40, 42, 3, 87, 88, 89, 90, 91, 92, 93, 94, 95, 96, 97, 98, 99, 100, 101, 102, 103, 104, 105, 106, 107, 108, 109, 110, 111, 112, 113, 114, 115, 116, 117, 118, 119] (by decide +kernel) (by decide +kernel)
set_option maxRecDepth 20000 in
theorem gX8_who_X8_backs : GoodIn wsX8_who (wsV RX8 227 RX8 yX8_backs wsX8_backs) := goodIn_app (goodIn_of _ (by decide +kernel)) ggX8_who_X8_backs
set_option maxRecDepth 20000 in
theorem ggX8_who_X8_well : GoodIn wsX8_who wsX8_well := goodIn_r _ [86, 32, 87, 88, 89, 90, 91, 92, 93, 94, 95, 96, 97, 98, 99, 100, 101, 102, 103, 104, 105, 106, 107, 108, 109, 110, 111, 112, 113, 114, 115, 116, 117, 118, 119] (by decide +kernel) (by decide +kernel)
set_option maxRecDepth 20000 in
theorem gX8_who_X8_well : GoodIn wsX8_who (wsV RX8 69 RX8 yX8_well wsX8_well) := goodIn_app (goodIn_of _ (by decide +kernel)) ggX8_who_X8_well
theorem dX8_who_0 : decode cX8_who 0 = .ok (.aload_n 0, 1) := by decide +kernel
theorem dX8_who_1 : decode cX8_who 1 = .ok (.iload_n 1, 1) := by decide +kernel
theorem dX8_who_2 : decode cX8_who 2 = .ok (.invokevirtual 185, 3) := by decide +kernel
theorem dX8_who_5 : decode cX8_who 5 = .ok (.ifCond .eq 23, 3) := by decide +kernel
theorem dX8_who_8 : decode cX8_who 8 = .ok (.iload_n 2, 1) := by decide +kernel
theorem dX8_who_9 : decode cX8_who 9 = .ok (.invokestatic 58, 3) := by decide +kernel
theorem dX8_who_12 : decode cX8_who 12 = .ok (.ifCond .eq 16, 3) := by decide +kernel
theorem dX8_who_15 : decode cX8_who 15 = .ok (.iload 4, 2) := by decide +kernel
theorem dX8_who_17 : decode cX8_who 17 = .ok (.i2l, 1) := by decide +kernel
theorem dX8_who_18 : decode cX8_who 18 = .ok (.lconst 1, 1) := by decide +kernel
theorem dX8_who_19 : decode cX8_who 19 = .ok (.ldc2_w 254, 3) := by decide +kernel
theorem dX8_who_22 : decode cX8_who 22 = .ok (.invokestatic 54, 3) := by decide +kernel
theorem dX8_who_25 : decode cX8_who 25 = .ok (.ifCond .ne 6, 3) := by decide +kernel
theorem dX8_who_28 : decode cX8_who 28 = .ok (.ldc 64, 2) := by decide +kernel
theorem dX8_who_30 : decode cX8_who 30 = .ok (.ireturn, 1) := by decide +kernel
theorem dX8_who_31 : decode cX8_who 31 = .ok (.aload_n 0, 1) := by decide +kernel
theorem dX8_who_32 : decode cX8_who 32 = .ok (.getfield 159, 3) := by decide +kernel
theorem dX8_who_35 : decode cX8_who 35 = .ok (.ifCond .eq 6, 3) := by decide +kernel
theorem dX8_who_38 : decode cX8_who 38 = .ok (.ldc 184, 2) := by decide +kernel
theorem dX8_who_40 : decode cX8_who 40 = .ok (.ireturn, 1) := by decide +kernel
theorem dX8_who_41 : decode cX8_who 41 = .ok (.aload_n 0, 1) := by decide +kernel
theorem dX8_who_42 : decode cX8_who 42 = .ok (.iload_n 2, 1) := by decide +kernel
theorem dX8_who_43 : decode cX8_who 43 = .ok (.iload_n 3, 1) := by decide +kernel
theorem dX8_who_44 : decode cX8_who 44 = .ok (.iload 4, 2) := by decide +kernel
theorem dX8_who_46 : decode cX8_who 46 = .ok (.invokevirtual 248, 3) := by decide +kernel
theorem dX8_who_49 : decode cX8_who 49 = .ok (.istore 5, 2) := by decide +kernel
theorem dX8_who_51 : decode cX8_who 51 = .ok (.iload 5, 2) := by decide +kernel
theorem dX8_who_53 : decode cX8_who 53 = .ok (.ifCond .le 10, 3) := by decide +kernel
theorem dX8_who_56 : decode cX8_who 56 = .ok (.aload_n 0, 1) := by decide +kernel
theorem dX8_who_57 : decode cX8_who 57 = .ok (.iload 5, 2) := by decide +kernel
theorem dX8_who_59 : decode cX8_who 59 = .ok (.invokevirtual 65, 3) := by decide +kernel
theorem dX8_who_62 : decode cX8_who 62 = .ok (.ireturn, 1) := by decide +kernel
theorem dX8_who_63 : decode cX8_who 63 = .ok (.aload_n 0, 1) := by decide +kernel
theorem dX8_who_64 : decode cX8_who 64 = .ok (.invokevirtual 224, 3) := by decide +kernel
theorem dX8_who_67 : decode cX8_who 67 = .ok (.iconst 0, 1) := by decide +kernel
theorem dX8_who_68 : decode cX8_who 68 = .ok (.istore 6, 2) := by decide +kernel
theorem dX8_who_70 : decode cX8_who 70 = .ok (.iconst 1, 1) := by decide +kernel
theorem dX8_who_71 : decode cX8_who 71 = .ok (.istore 7, 2) := by decide +kernel
theorem dX8_who_73 : decode cX8_who 73 = .ok (.iload 7, 2) := by decide +kernel
theorem dX8_who_75 : decode cX8_who 75 = .ok (.bipush 6, 2) := by decide +kernel
theorem dX8_who_77 : decode cX8_who 77 = .ok (.if_icmp .ge 48, 3) := by decide +kernel
theorem dX8_who_80 : decode cX8_who 80 = .ok (.iload 6, 2) := by decide +kernel
theorem dX8_who_82 : decode cX8_who 82 = .ok (.aload_n 0, 1) := by decide +kernel
theorem dX8_who_83 : decode cX8_who 83 = .ok (.bipush 40, 2) := by decide +kernel
theorem dX8_who_85 : decode cX8_who 85 = .ok (.iload_n 2, 1) := by decide +kernel
theorem dX8_who_86 : decode cX8_who 86 = .ok (.imul, 1) := by decide +kernel
theorem dX8_who_87 : decode cX8_who 87 = .ok (.iload_n 3, 1) := by decide +kernel
theorem dX8_who_88 : decode cX8_who 88 = .ok (.iadd, 1) := by decide +kernel
theorem dX8_who_89 : decode cX8_who 89 = .ok (.iload 4, 2) := by decide +kernel
theorem dX8_who_91 : decode cX8_who 91 = .ok (.iload 7, 2) := by decide +kernel
theorem dX8_who_93 : decode cX8_who 93 = .ok (.aload_n 0, 1) := by decide +kernel
theorem dX8_who_94 : decode cX8_who 94 = .ok (.iload_n 1, 1) := by decide +kernel
theorem dX8_who_95 : decode cX8_who 95 = .ok (.invokevirtual 178, 3) := by decide +kernel
theorem dX8_who_98 : decode cX8_who 98 = .ok (.invokevirtual 256, 3) := by decide +kernel
theorem dX8_who_101 : decode cX8_who 101 = .ok (.ifCond .eq 10, 3) := by decide +kernel
theorem dX8_who_104 : decode cX8_who 104 = .ok (.iconst 1, 1) := by decide +kernel
theorem dX8_who_105 : decode cX8_who 105 = .ok (.iload 7, 2) := by decide +kernel
theorem dX8_who_107 : decode cX8_who 107 = .ok (.ishl, 1) := by decide +kernel
theorem dX8_who_108 : decode cX8_who 108 = .ok (.goto 4, 3) := by decide +kernel
theorem dX8_who_111 : decode cX8_who 111 = .ok (.iconst 0, 1) := by decide +kernel
theorem dX8_who_112 : decode cX8_who 112 = .ok (.ior, 1) := by decide +kernel
theorem dX8_who_113 : decode cX8_who 113 = .ok (.istore 6, 2) := by decide +kernel
theorem dX8_who_115 : decode cX8_who 115 = .ok (.aload_n 0, 1) := by decide +kernel
theorem dX8_who_116 : decode cX8_who 116 = .ok (.invokevirtual 227, 3) := by decide +kernel
theorem dX8_who_119 : decode cX8_who 119 = .ok (.iinc 7 1, 3) := by decide +kernel
theorem dX8_who_122 : decode cX8_who 122 = .ok (.goto (-49), 3) := by decide +kernel
theorem dX8_who_125 : decode cX8_who 125 = .ok (.aload_n 0, 1) := by decide +kernel
theorem dX8_who_126 : decode cX8_who 126 = .ok (.iload 6, 2) := by decide +kernel
theorem dX8_who_128 : decode cX8_who 128 = .ok (.invokevirtual 69, 3) := by decide +kernel
theorem dX8_who_131 : decode cX8_who 131 = .ok (.ireturn, 1) := by decide +kernel
set_option maxRecDepth 20000 in
theorem ggX8_falls_X8_asides : GoodIn wsX8_falls wsX8_asides := goodIn_r _ [13, 5, 14, 6, 15, 7, 16, 3, 17, 18, 19, 62, 63, 64, 65, 66, 67, 68, 69, 70, 71, 72, 73, 74, 75, 76, 77, 78, 79, 80, 81, 82, 83, 84, 85, 86, 87, 88, 89, 90, 91, 92, 93, 94] (by decide +kernel) (by decide +kernel)
set_option maxRecDepth 20000 in
theorem gX8_falls_X8_asides : GoodIn wsX8_falls (wsV RX8 224 RX8 yX8_asides wsX8_asides) := goodIn_app (goodIn_of _ (by decide +kernel)) ggX8_falls_X8_asides
set_option maxRecDepth 20000 in
theorem ggX8_falls_X8_place : GoodIn wsX8_falls wsX8_place := goodIn_r _ [22] (by decide +kernel) (by decide +kernel)
set_option maxRecDepth 20000 in
theorem gX8_falls_X8_place : GoodIn wsX8_falls (va_wsS RX8 230 yX8_place wsX8_place) := goodIn_app (goodIn_of _ (by decide +kernel)) ggX8_falls_X8_place
set_option maxRecDepth 20000 in
theorem ggX8_falls_X8_puts : GoodIn wsX8_falls wsX8_puts := goodIn_r _ [26, 5, 6, 7, 3, 62, 63, 64, 65, 66, 67, 68, 69, 70, 71, 72, 73, 74, 75, 76, 77, 78, 79, 80, 81, 82, 83, 84, 85, 86, 87, 88, 89, 90, 91, 92, 93, 94] (by decide +kernel) (by decide +kernel)
set_option maxRecDepth 20000 in
theorem gX8_falls_X8_puts : GoodIn wsX8_falls (wsV RX8 140 RX8 yX8_puts wsX8_puts) := goodIn_app (goodIn_of _ (by decide +kernel)) ggX8_falls_X8_puts
set_option maxRecDepth 20000 in
theorem ggX8_falls_X8_goesWith : GoodIn wsX8_falls wsX8_goesWith := goodIn_r _ [30, 31, 32, 33, 12, 34, 8, 35, 36, 37, 38, 39, 40, 41, 42, 5, 6, 18, 3, 7, 43, 44, 45, 46, 47, 48, 49, 50, 51, 52, 53, 54, 55, 56, 57, 62, 63, 64, 65, 66, 67, 68, 69, 70, 71, 72, 73, 74, 75, 76, 77, 78, 79, 80, 81, 82, 83, 84, 85, 86, 87, 88, 89, 90, 91, 92, 93, 94] (by decide +kernel) (by decide +kernel)
set_option maxRecDepth 20000 in
theorem gX8_falls_X8_goesWith : GoodIn wsX8_falls (wsV RX8 191 RX8 yX8_goesWith wsX8_goesWith) := goodIn_app (goodIn_of _ (by decide +kernel)) ggX8_falls_X8_goesWith
set_option maxRecDepth 20000 in
theorem ggX8_falls_X8_backs : GoodIn wsX8_falls wsX8_backs := goodIn_r _ [61, 14, 15, 16, 17, 19, 18, 23, 24, 25, 12, 26, 5, 6, 7, 3, 62, 63, 64, 65, 66, 67, 68, 69, 70, 71, 72, 73, 74, 75, 76, 77, 78, 79, 80, 81, 82, 83, 84, 85, 86, 87, 88, 89, 90, 91, 92, 93, 94] (by decide +kernel) (by decide +kernel)
set_option maxRecDepth 20000 in
theorem gX8_falls_X8_backs : GoodIn wsX8_falls (wsV RX8 227 RX8 yX8_backs wsX8_backs) := goodIn_app (goodIn_of _ (by decide +kernel)) ggX8_falls_X8_backs
theorem dX8_falls_0 : decode cX8_falls 0 = .ok (.aload_n 0, 1) := by decide +kernel
theorem dX8_falls_1 : decode cX8_falls 1 = .ok (.getfield 136, 3) := by decide +kernel
theorem dX8_falls_4 : decode cX8_falls 4 = .ok (.ifCond .ne 6, 3) := by decide +kernel
theorem dX8_falls_7 : decode cX8_falls 7 = .ok (.ldc 184, 2) := by decide +kernel
theorem dX8_falls_9 : decode cX8_falls 9 = .ok (.ireturn, 1) := by decide +kernel
theorem dX8_falls_10 : decode cX8_falls 10 = .ok (.aload_n 0, 1) := by decide +kernel
theorem dX8_falls_11 : decode cX8_falls 11 = .ok (.getfield 159, 3) := by decide +kernel
theorem dX8_falls_14 : decode cX8_falls 14 = .ok (.ifCond .eq 5, 3) := by decide +kernel
theorem dX8_falls_17 : decode cX8_falls 17 = .ok (.iconst 0, 1) := by decide +kernel
theorem dX8_falls_18 : decode cX8_falls 18 = .ok (.ireturn, 1) := by decide +kernel
theorem dX8_falls_19 : decode cX8_falls 19 = .ok (.aload_n 0, 1) := by decide +kernel
theorem dX8_falls_20 : decode cX8_falls 20 = .ok (.invokevirtual 224, 3) := by decide +kernel
theorem dX8_falls_23 : decode cX8_falls 23 = .ok (.iconst 0, 1) := by decide +kernel
theorem dX8_falls_24 : decode cX8_falls 24 = .ok (.istore_n 1, 1) := by decide +kernel
theorem dX8_falls_25 : decode cX8_falls 25 = .ok (.iload_n 1, 1) := by decide +kernel
theorem dX8_falls_26 : decode cX8_falls 26 = .ok (.sipush 2640, 3) := by decide +kernel
theorem dX8_falls_29 : decode cX8_falls 29 = .ok (.if_icmp .ge 16, 3) := by decide +kernel
theorem dX8_falls_32 : decode cX8_falls 32 = .ok (.aload_n 0, 1) := by decide +kernel
theorem dX8_falls_33 : decode cX8_falls 33 = .ok (.getfield 37, 3) := by decide +kernel
theorem dX8_falls_36 : decode cX8_falls 36 = .ok (.iload_n 1, 1) := by decide +kernel
theorem dX8_falls_37 : decode cX8_falls 37 = .ok (.iconst 0, 1) := by decide +kernel
theorem dX8_falls_38 : decode cX8_falls 38 = .ok (.bastore, 1) := by decide +kernel
theorem dX8_falls_39 : decode cX8_falls 39 = .ok (.iinc 1 1, 3) := by decide +kernel
theorem dX8_falls_42 : decode cX8_falls 42 = .ok (.goto (-17), 3) := by decide +kernel
theorem dX8_falls_45 : decode cX8_falls 45 = .ok (.aload_n 0, 1) := by decide +kernel
theorem dX8_falls_46 : decode cX8_falls 46 = .ok (.getfield 37, 3) := by decide +kernel
theorem dX8_falls_49 : decode cX8_falls 49 = .ok (.aload_n 0, 1) := by decide +kernel
theorem dX8_falls_50 : decode cX8_falls 50 = .ok (.getfield 150, 3) := by decide +kernel
theorem dX8_falls_53 : decode cX8_falls 53 = .ok (.aload_n 0, 1) := by decide +kernel
theorem dX8_falls_54 : decode cX8_falls 54 = .ok (.getfield 153, 3) := by decide +kernel
theorem dX8_falls_57 : decode cX8_falls 57 = .ok (.aload_n 0, 1) := by decide +kernel
theorem dX8_falls_58 : decode cX8_falls 58 = .ok (.getfield 156, 3) := by decide +kernel
theorem dX8_falls_61 : decode cX8_falls 61 = .ok (.invokestatic 230, 3) := by decide +kernel
theorem dX8_falls_64 : decode cX8_falls 64 = .ok (.iconst 1, 1) := by decide +kernel
theorem dX8_falls_65 : decode cX8_falls 65 = .ok (.bastore, 1) := by decide +kernel
theorem dX8_falls_66 : decode cX8_falls 66 = .ok (.iconst 0, 1) := by decide +kernel
theorem dX8_falls_67 : decode cX8_falls 67 = .ok (.istore_n 1, 1) := by decide +kernel
theorem dX8_falls_68 : decode cX8_falls 68 = .ok (.iconst 0, 1) := by decide +kernel
theorem dX8_falls_69 : decode cX8_falls 69 = .ok (.istore_n 2, 1) := by decide +kernel
theorem dX8_falls_70 : decode cX8_falls 70 = .ok (.iload_n 2, 1) := by decide +kernel
theorem dX8_falls_71 : decode cX8_falls 71 = .ok (.bipush 110, 2) := by decide +kernel
theorem dX8_falls_73 : decode cX8_falls 73 = .ok (.aload_n 0, 1) := by decide +kernel
theorem dX8_falls_74 : decode cX8_falls 74 = .ok (.getfield 22, 3) := by decide +kernel
theorem dX8_falls_77 : decode cX8_falls 77 = .ok (.iconst 0, 1) := by decide +kernel
theorem dX8_falls_78 : decode cX8_falls 78 = .ok (.iaload, 1) := by decide +kernel
theorem dX8_falls_79 : decode cX8_falls 79 = .ok (.imul, 1) := by decide +kernel
theorem dX8_falls_80 : decode cX8_falls 80 = .ok (.if_icmp .ge 112, 3) := by decide +kernel
theorem dX8_falls_83 : decode cX8_falls 83 = .ok (.iconst (-1), 1) := by decide +kernel
theorem dX8_falls_84 : decode cX8_falls 84 = .ok (.istore_n 3, 1) := by decide +kernel
theorem dX8_falls_85 : decode cX8_falls 85 = .ok (.iload_n 3, 1) := by decide +kernel
theorem dX8_falls_86 : decode cX8_falls 86 = .ok (.aload_n 0, 1) := by decide +kernel
theorem dX8_falls_87 : decode cX8_falls 87 = .ok (.getfield 22, 3) := by decide +kernel
theorem dX8_falls_90 : decode cX8_falls 90 = .ok (.iconst 1, 1) := by decide +kernel
theorem dX8_falls_91 : decode cX8_falls 91 = .ok (.iaload, 1) := by decide +kernel
theorem dX8_falls_92 : decode cX8_falls 92 = .ok (.if_icmp .ge 94, 3) := by decide +kernel
theorem dX8_falls_95 : decode cX8_falls 95 = .ok (.aload_n 0, 1) := by decide +kernel
theorem dX8_falls_96 : decode cX8_falls 96 = .ok (.getfield 37, 3) := by decide +kernel
theorem dX8_falls_99 : decode cX8_falls 99 = .ok (.iload_n 2, 1) := by decide +kernel
theorem dX8_falls_100 : decode cX8_falls 100 = .ok (.baload, 1) := by decide +kernel
theorem dX8_falls_101 : decode cX8_falls 101 = .ok (.ifCond .eq 85, 3) := by decide +kernel
theorem dX8_falls_104 : decode cX8_falls 104 = .ok (.aload_n 0, 1) := by decide +kernel
theorem dX8_falls_105 : decode cX8_falls 105 = .ok (.iload_n 2, 1) := by decide +kernel
theorem dX8_falls_106 : decode cX8_falls 106 = .ok (.bipush 110, 2) := by decide +kernel
theorem dX8_falls_108 : decode cX8_falls 108 = .ok (.idiv, 1) := by decide +kernel
theorem dX8_falls_109 : decode cX8_falls 109 = .ok (.iload_n 2, 1) := by decide +kernel
theorem dX8_falls_110 : decode cX8_falls 110 = .ok (.bipush 11, 2) := by decide +kernel
theorem dX8_falls_112 : decode cX8_falls 112 = .ok (.idiv, 1) := by decide +kernel
theorem dX8_falls_113 : decode cX8_falls 113 = .ok (.bipush 10, 2) := by decide +kernel
theorem dX8_falls_115 : decode cX8_falls 115 = .ok (.irem, 1) := by decide +kernel
theorem dX8_falls_116 : decode cX8_falls 116 = .ok (.iload_n 2, 1) := by decide +kernel
theorem dX8_falls_117 : decode cX8_falls 117 = .ok (.bipush 11, 2) := by decide +kernel
theorem dX8_falls_119 : decode cX8_falls 119 = .ok (.irem, 1) := by decide +kernel
theorem dX8_falls_120 : decode cX8_falls 120 = .ok (.iconst 5, 1) := by decide +kernel
theorem dX8_falls_121 : decode cX8_falls 121 = .ok (.isub, 1) := by decide +kernel
theorem dX8_falls_122 : decode cX8_falls 122 = .ok (.iconst 0, 1) := by decide +kernel
theorem dX8_falls_123 : decode cX8_falls 123 = .ok (.invokevirtual 140, 3) := by decide +kernel
theorem dX8_falls_126 : decode cX8_falls 126 = .ok (.aload_n 0, 1) := by decide +kernel
theorem dX8_falls_127 : decode cX8_falls 127 = .ok (.iload_n 3, 1) := by decide +kernel
theorem dX8_falls_128 : decode cX8_falls 128 = .ok (.invokevirtual 191, 3) := by decide +kernel
theorem dX8_falls_131 : decode cX8_falls 131 = .ok (.iload_n 1, 1) := by decide +kernel
theorem dX8_falls_132 : decode cX8_falls 132 = .ok (.aload_n 0, 1) := by decide +kernel
theorem dX8_falls_133 : decode cX8_falls 133 = .ok (.getfield 159, 3) := by decide +kernel
theorem dX8_falls_136 : decode cX8_falls 136 = .ok (.iconst 1, 1) := by decide +kernel
theorem dX8_falls_137 : decode cX8_falls 137 = .ok (.if_icmp .ne 12, 3) := by decide +kernel
theorem dX8_falls_140 : decode cX8_falls 140 = .ok (.iconst 1, 1) := by decide +kernel
theorem dX8_falls_141 : decode cX8_falls 141 = .ok (.aload_n 0, 1) := by decide +kernel
theorem dX8_falls_142 : decode cX8_falls 142 = .ok (.getfield 150, 3) := by decide +kernel
theorem dX8_falls_145 : decode cX8_falls 145 = .ok (.ishl, 1) := by decide +kernel
theorem dX8_falls_146 : decode cX8_falls 146 = .ok (.goto 4, 3) := by decide +kernel
theorem dX8_falls_149 : decode cX8_falls 149 = .ok (.iconst 0, 1) := by decide +kernel
theorem dX8_falls_150 : decode cX8_falls 150 = .ok (.ior, 1) := by decide +kernel
theorem dX8_falls_151 : decode cX8_falls 151 = .ok (.istore_n 1, 1) := by decide +kernel
theorem dX8_falls_152 : decode cX8_falls 152 = .ok (.aload_n 0, 1) := by decide +kernel
theorem dX8_falls_153 : decode cX8_falls 153 = .ok (.getfield 159, 3) := by decide +kernel
theorem dX8_falls_156 : decode cX8_falls 156 = .ok (.ifCond .ne 24, 3) := by decide +kernel
theorem dX8_falls_159 : decode cX8_falls 159 = .ok (.aload_n 0, 1) := by decide +kernel
theorem dX8_falls_160 : decode cX8_falls 160 = .ok (.getfield 37, 3) := by decide +kernel
theorem dX8_falls_163 : decode cX8_falls 163 = .ok (.aload_n 0, 1) := by decide +kernel
theorem dX8_falls_164 : decode cX8_falls 164 = .ok (.getfield 150, 3) := by decide +kernel
theorem dX8_falls_167 : decode cX8_falls 167 = .ok (.aload_n 0, 1) := by decide +kernel
theorem dX8_falls_168 : decode cX8_falls 168 = .ok (.getfield 153, 3) := by decide +kernel
theorem dX8_falls_171 : decode cX8_falls 171 = .ok (.aload_n 0, 1) := by decide +kernel
theorem dX8_falls_172 : decode cX8_falls 172 = .ok (.getfield 156, 3) := by decide +kernel
theorem dX8_falls_175 : decode cX8_falls 175 = .ok (.invokestatic 230, 3) := by decide +kernel
theorem dX8_falls_178 : decode cX8_falls 178 = .ok (.iconst 1, 1) := by decide +kernel
theorem dX8_falls_179 : decode cX8_falls 179 = .ok (.bastore, 1) := by decide +kernel
theorem dX8_falls_180 : decode cX8_falls 180 = .ok (.iinc 3 1, 3) := by decide +kernel
theorem dX8_falls_183 : decode cX8_falls 183 = .ok (.goto (-98), 3) := by decide +kernel
theorem dX8_falls_186 : decode cX8_falls 186 = .ok (.iinc 2 1, 3) := by decide +kernel
theorem dX8_falls_189 : decode cX8_falls 189 = .ok (.goto (-119), 3) := by decide +kernel
theorem dX8_falls_192 : decode cX8_falls 192 = .ok (.aload_n 0, 1) := by decide +kernel
theorem dX8_falls_193 : decode cX8_falls 193 = .ok (.invokevirtual 227, 3) := by decide +kernel
theorem dX8_falls_196 : decode cX8_falls 196 = .ok (.iload_n 1, 1) := by decide +kernel
theorem dX8_falls_197 : decode cX8_falls 197 = .ok (.ireturn, 1) := by decide +kernel
set_option maxRecDepth 20000 in
theorem ggX8_mend_X8_in : GoodIn wsX8_mend wsX8_in := goodIn_r _ [9] (by decide +kernel) (by decide +kernel)
set_option maxRecDepth 20000 in
theorem gX8_mend_X8_in : GoodIn wsX8_mend (va_wsS RX8 54 yX8_in wsX8_in) := goodIn_app (goodIn_of _ (by decide +kernel)) ggX8_mend_X8_in
set_option maxRecDepth 20000 in
theorem ggX8_mend_X8_way : GoodIn wsX8_mend wsX8_way := goodIn_r _ [13, 14, 4, 15, 16, 17, 18, 19, 20, 21, 8, 22, 5, 23, 24, 25, 26, 27, 28, 29, 30, 31, 32, 33, 34, 35, 36, 37, 38, 39, 40, 41, 42, 43, 44, 45, 46, 47, 48, 49, 50, 51, 52, 53, 54, 55, 56, 57, 58, 59, 60, 61, 62, 63, 64, 65, 66, 67, 68, 69, 70, 71, 72, 73, 74, 75, 76, 77, 78, 79, 80, 81, 82, 83, 84, 85, 86, 87, 88, 89, 90, 91, 92, 93, 94, 95, 96, 97, 98, 99, 100, 101, 102, 103, 104, 105, 106, 107, 108, 109, 110, 111] (by decide +kernel) (by decide +kernel)
set_option maxRecDepth 20000 in
theorem gX8_mend_X8_way : GoodIn wsX8_mend (wsV RX8 242 RX8 yX8_way wsX8_way) := goodIn_app (goodIn_of _ (by decide +kernel)) ggX8_mend_X8_way
theorem dX8_mend_0 : decode cX8_mend 0 = .ok (.aload_n 0, 1) := by decide +kernel
theorem dX8_mend_1 : decode cX8_mend 1 = .ok (.getfield 136, 3) := by decide +kernel
theorem dX8_mend_4 : decode cX8_mend 4 = .ok (.ifCond .ne 6, 3) := by decide +kernel
theorem dX8_mend_7 : decode cX8_mend 7 = .ok (.ldc 184, 2) := by decide +kernel
theorem dX8_mend_9 : decode cX8_mend 9 = .ok (.ireturn, 1) := by decide +kernel
theorem dX8_mend_10 : decode cX8_mend 10 = .ok (.iload_n 1, 1) := by decide +kernel
theorem dX8_mend_11 : decode cX8_mend 11 = .ok (.i2l, 1) := by decide +kernel
theorem dX8_mend_12 : decode cX8_mend 12 = .ok (.lconst 0, 1) := by decide +kernel
theorem dX8_mend_13 : decode cX8_mend 13 = .ok (.lconst 1, 1) := by decide +kernel
theorem dX8_mend_14 : decode cX8_mend 14 = .ok (.invokestatic 54, 3) := by decide +kernel
theorem dX8_mend_17 : decode cX8_mend 17 = .ok (.ifCond .ne 6, 3) := by decide +kernel
theorem dX8_mend_20 : decode cX8_mend 20 = .ok (.ldc 64, 2) := by decide +kernel
theorem dX8_mend_22 : decode cX8_mend 22 = .ok (.ireturn, 1) := by decide +kernel
theorem dX8_mend_23 : decode cX8_mend 23 = .ok (.ldc 237, 2) := by decide +kernel
theorem dX8_mend_25 : decode cX8_mend 25 = .ok (.istore_n 2, 1) := by decide +kernel
theorem dX8_mend_26 : decode cX8_mend 26 = .ok (.sipush 9999, 3) := by decide +kernel
theorem dX8_mend_29 : decode cX8_mend 29 = .ok (.istore_n 3, 1) := by decide +kernel
theorem dX8_mend_30 : decode cX8_mend 30 = .ok (.iconst 0, 1) := by decide +kernel
theorem dX8_mend_31 : decode cX8_mend 31 = .ok (.istore 4, 2) := by decide +kernel
theorem dX8_mend_33 : decode cX8_mend 33 = .ok (.iload 4, 2) := by decide +kernel
theorem dX8_mend_35 : decode cX8_mend 35 = .ok (.aload_n 0, 1) := by decide +kernel
theorem dX8_mend_36 : decode cX8_mend 36 = .ok (.getfield 22, 3) := by decide +kernel
theorem dX8_mend_39 : decode cX8_mend 39 = .ok (.iconst 0, 1) := by decide +kernel
theorem dX8_mend_40 : decode cX8_mend 40 = .ok (.iaload, 1) := by decide +kernel
theorem dX8_mend_41 : decode cX8_mend 41 = .ok (.if_icmp .ge 93, 3) := by decide +kernel
theorem dX8_mend_44 : decode cX8_mend 44 = .ok (.aload_n 0, 1) := by decide +kernel
theorem dX8_mend_45 : decode cX8_mend 45 = .ok (.getfield 22, 3) := by decide +kernel
theorem dX8_mend_48 : decode cX8_mend 48 = .ok (.iconst 4, 1) := by decide +kernel
theorem dX8_mend_49 : decode cX8_mend 49 = .ok (.iload 4, 2) := by decide +kernel
theorem dX8_mend_51 : decode cX8_mend 51 = .ok (.iadd, 1) := by decide +kernel
theorem dX8_mend_52 : decode cX8_mend 52 = .ok (.iaload, 1) := by decide +kernel
theorem dX8_mend_53 : decode cX8_mend 53 = .ok (.istore 5, 2) := by decide +kernel
theorem dX8_mend_55 : decode cX8_mend 55 = .ok (.aload_n 0, 1) := by decide +kernel
theorem dX8_mend_56 : decode cX8_mend 56 = .ok (.getfield 22, 3) := by decide +kernel
theorem dX8_mend_59 : decode cX8_mend 59 = .ok (.iconst 4, 1) := by decide +kernel
theorem dX8_mend_60 : decode cX8_mend 60 = .ok (.iload 4, 2) := by decide +kernel
theorem dX8_mend_62 : decode cX8_mend 62 = .ok (.iadd, 1) := by decide +kernel
theorem dX8_mend_63 : decode cX8_mend 63 = .ok (.iconst 0, 1) := by decide +kernel
theorem dX8_mend_64 : decode cX8_mend 64 = .ok (.iastore, 1) := by decide +kernel
theorem dX8_mend_65 : decode cX8_mend 65 = .ok (.aload_n 0, 1) := by decide +kernel
theorem dX8_mend_66 : decode cX8_mend 66 = .ok (.iconst 1, 1) := by decide +kernel
theorem dX8_mend_67 : decode cX8_mend 67 = .ok (.iconst 0, 1) := by decide +kernel
theorem dX8_mend_68 : decode cX8_mend 68 = .ok (.invokevirtual 242, 3) := by decide +kernel
theorem dX8_mend_71 : decode cX8_mend 71 = .ok (.istore 6, 2) := by decide +kernel
theorem dX8_mend_73 : decode cX8_mend 73 = .ok (.aload_n 0, 1) := by decide +kernel
theorem dX8_mend_74 : decode cX8_mend 74 = .ok (.getfield 22, 3) := by decide +kernel
theorem dX8_mend_77 : decode cX8_mend 77 = .ok (.iconst 4, 1) := by decide +kernel
theorem dX8_mend_78 : decode cX8_mend 78 = .ok (.iload 4, 2) := by decide +kernel
theorem dX8_mend_80 : decode cX8_mend 80 = .ok (.iadd, 1) := by decide +kernel
theorem dX8_mend_81 : decode cX8_mend 81 = .ok (.iload 5, 2) := by decide +kernel
theorem dX8_mend_83 : decode cX8_mend 83 = .ok (.iastore, 1) := by decide +kernel
theorem dX8_mend_84 : decode cX8_mend 84 = .ok (.iload 6, 2) := by decide +kernel
theorem dX8_mend_86 : decode cX8_mend 86 = .ok (.ldc 237, 2) := by decide +kernel
theorem dX8_mend_88 : decode cX8_mend 88 = .ok (.if_icmp .eq 13, 3) := by decide +kernel
theorem dX8_mend_91 : decode cX8_mend 91 = .ok (.iload 6, 2) := by decide +kernel
theorem dX8_mend_93 : decode cX8_mend 93 = .ok (.iload_n 3, 1) := by decide +kernel
theorem dX8_mend_94 : decode cX8_mend 94 = .ok (.if_icmp .ge 7, 3) := by decide +kernel
theorem dX8_mend_97 : decode cX8_mend 97 = .ok (.iconst 1, 1) := by decide +kernel
theorem dX8_mend_98 : decode cX8_mend 98 = .ok (.goto 4, 3) := by decide +kernel
theorem dX8_mend_101 : decode cX8_mend 101 = .ok (.iconst 0, 1) := by decide +kernel
theorem dX8_mend_102 : decode cX8_mend 102 = .ok (.istore 7, 2) := by decide +kernel
theorem dX8_mend_104 : decode cX8_mend 104 = .ok (.iload 7, 2) := by decide +kernel
theorem dX8_mend_106 : decode cX8_mend 106 = .ok (.ifCond .eq 8, 3) := by decide +kernel
theorem dX8_mend_109 : decode cX8_mend 109 = .ok (.iload 4, 2) := by decide +kernel
theorem dX8_mend_111 : decode cX8_mend 111 = .ok (.goto 4, 3) := by decide +kernel
theorem dX8_mend_114 : decode cX8_mend 114 = .ok (.iload_n 2, 1) := by decide +kernel
theorem dX8_mend_115 : decode cX8_mend 115 = .ok (.istore_n 2, 1) := by decide +kernel
theorem dX8_mend_116 : decode cX8_mend 116 = .ok (.iload 7, 2) := by decide +kernel
theorem dX8_mend_118 : decode cX8_mend 118 = .ok (.ifCond .eq 8, 3) := by decide +kernel
theorem dX8_mend_121 : decode cX8_mend 121 = .ok (.iload 6, 2) := by decide +kernel
theorem dX8_mend_123 : decode cX8_mend 123 = .ok (.goto 4, 3) := by decide +kernel
theorem dX8_mend_126 : decode cX8_mend 126 = .ok (.iload_n 3, 1) := by decide +kernel
theorem dX8_mend_127 : decode cX8_mend 127 = .ok (.istore_n 3, 1) := by decide +kernel
theorem dX8_mend_128 : decode cX8_mend 128 = .ok (.iinc 4 1, 3) := by decide +kernel
theorem dX8_mend_131 : decode cX8_mend 131 = .ok (.goto (-98), 3) := by decide +kernel
theorem dX8_mend_134 : decode cX8_mend 134 = .ok (.iload_n 2, 1) := by decide +kernel
theorem dX8_mend_135 : decode cX8_mend 135 = .ok (.ldc 237, 2) := by decide +kernel
theorem dX8_mend_137 : decode cX8_mend 137 = .ok (.if_icmp .ne 8, 3) := by decide +kernel
theorem dX8_mend_140 : decode cX8_mend 140 = .ok (.ldc 237, 2) := by decide +kernel
theorem dX8_mend_142 : decode cX8_mend 142 = .ok (.goto 12, 3) := by decide +kernel
theorem dX8_mend_145 : decode cX8_mend 145 = .ok (.iload_n 1, 1) := by decide +kernel
theorem dX8_mend_146 : decode cX8_mend 146 = .ok (.ifCond .ne 7, 3) := by decide +kernel
theorem dX8_mend_149 : decode cX8_mend 149 = .ok (.iload_n 2, 1) := by decide +kernel
theorem dX8_mend_150 : decode cX8_mend 150 = .ok (.goto 4, 3) := by decide +kernel
theorem dX8_mend_153 : decode cX8_mend 153 = .ok (.iload_n 3, 1) := by decide +kernel
theorem dX8_mend_154 : decode cX8_mend 154 = .ok (.ireturn, 1) := by decide +kernel
theorem dX8_common_0 : decode cX8_common 0 = .ok (.lload_n 0, 1) := by decide +kernel
theorem dX8_common_1 : decode cX8_common 1 = .ok (.lstore 4, 2) := by decide +kernel
theorem dX8_common_3 : decode cX8_common 3 = .ok (.lload_n 2, 1) := by decide +kernel
theorem dX8_common_4 : decode cX8_common 4 = .ok (.lstore 6, 2) := by decide +kernel
theorem dX8_common_6 : decode cX8_common 6 = .ok (.lload 6, 2) := by decide +kernel
theorem dX8_common_8 : decode cX8_common 8 = .ok (.lconst 0, 1) := by decide +kernel
theorem dX8_common_9 : decode cX8_common 9 = .ok (.lcmp, 1) := by decide +kernel
theorem dX8_common_10 : decode cX8_common 10 = .ok (.ifCond .eq 21, 3) := by decide +kernel
theorem dX8_common_13 : decode cX8_common 13 = .ok (.lload 4, 2) := by decide +kernel
theorem dX8_common_15 : decode cX8_common 15 = .ok (.lload 6, 2) := by decide +kernel
theorem dX8_common_17 : decode cX8_common 17 = .ok (.lrem, 1) := by decide +kernel
theorem dX8_common_18 : decode cX8_common 18 = .ok (.lstore 8, 2) := by decide +kernel
theorem dX8_common_20 : decode cX8_common 20 = .ok (.lload 6, 2) := by decide +kernel
theorem dX8_common_22 : decode cX8_common 22 = .ok (.lstore 4, 2) := by decide +kernel
theorem dX8_common_24 : decode cX8_common 24 = .ok (.lload 8, 2) := by decide +kernel
theorem dX8_common_26 : decode cX8_common 26 = .ok (.lstore 6, 2) := by decide +kernel
theorem dX8_common_28 : decode cX8_common 28 = .ok (.goto (-22), 3) := by decide +kernel
theorem dX8_common_31 : decode cX8_common 31 = .ok (.lload 4, 2) := by decide +kernel
theorem dX8_common_33 : decode cX8_common 33 = .ok (.lreturn, 1) := by decide +kernel
set_option maxRecDepth 20000 in
theorem ggX8_miss_X8_isRow : GoodIn wsX8_miss wsX8_isRow := goodIn_r _ [12, 13, 14, 15, 11, 16] (by decide +kernel) (by decide +kernel)
set_option maxRecDepth 20000 in
theorem gX8_miss_X8_isRow : GoodIn wsX8_miss (va_wsS RX8 58 yX8_isRow wsX8_isRow) := goodIn_app (goodIn_of _ (by decide +kernel)) ggX8_miss_X8_isRow
set_option maxRecDepth 20000 in
theorem ggX8_miss_X8_in : GoodIn wsX8_miss wsX8_in := goodIn_r _ [16] (by decide +kernel) (by decide +kernel)
set_option maxRecDepth 20000 in
theorem gX8_miss_X8_in : GoodIn wsX8_miss (va_wsS RX8 54 yX8_in wsX8_in) := goodIn_app (goodIn_of _ (by decide +kernel)) ggX8_miss_X8_in
set_option maxRecDepth 20000 in
theorem ggX8_miss_X8_partOf : GoodIn wsX8_miss wsX8_partOf := goodIn_r _ [20, 21, 22, 23, 24, 11, 25, 26, 96, 97, 98, 99, 100, 101, 102, 103, 104, 105, 106, 107, 108, 109, 110, 111, 112, 113, 114, 115, 116, 117, 118, 119, 120, 121, 122, 123, 124, 125, 126, 127, 128] (by decide +kernel) (by decide +kernel)
set_option maxRecDepth 20000 in
theorem gX8_miss_X8_partOf : GoodIn wsX8_miss (wsV RX8 248 RX8 yX8_partOf wsX8_partOf) := goodIn_app (goodIn_of _ (by decide +kernel)) ggX8_miss_X8_partOf
set_option maxRecDepth 20000 in
theorem ggX8_miss_X8_finds : GoodIn wsX8_miss wsX8_finds := goodIn_r _ [30, 8, 31, 96, 97, 98, 99, 100, 101, 102, 103, 104, 105, 106, 107, 108, 109, 110, 111, 112, 113, 114, 115, 116, 117, 118, 119, 120, 121, 122, 123, 124, 125, 126, 127, 128] (by decide +kernel) (by decide +kernel)
set_option maxRecDepth 20000 in
theorem gX8_miss_X8_finds : GoodIn wsX8_miss (wsV RX8 65 RX8 yX8_finds wsX8_finds) := goodIn_app (goodIn_of _ (by decide +kernel)) ggX8_miss_X8_finds
set_option maxRecDepth 20000 in
theorem ggX8_miss_X8_areTaps : GoodIn wsX8_miss wsX8_areTaps := goodIn_r _ [35, 6, 36, 37, 38, 11, 39, 40, 14, 15, 16, 96, 97, 98, 99, 100, 101, 102, 103, 104, 105, 106, 107, 108, 109, 110, 111, 112, 113, 114, 115, 116, 117, 118, 119, 120, 121, 122, 123, 124, 125, 126, 127, 128] (by decide +kernel) (by decide +kernel)
set_option maxRecDepth 20000 in
theorem gX8_miss_X8_areTaps : GoodIn wsX8_miss (wsV RX8 251 RX8 yX8_areTaps wsX8_areTaps) := goodIn_app (goodIn_of _ (by decide +kernel)) ggX8_miss_X8_areTaps
set_option maxRecDepth 20000 in
theorem ggX8_miss_X8_asides : GoodIn wsX8_miss wsX8_asides := goodIn_r _ [44, 45, 46, 47, 48, 49, 50, 7, 51, 52, 53, 96, 97, 98, 99, 100, 101, 102, 103, 104, 105, 106, 107, 108, 109, 110, 111, 112, 113, 114, 115, 116, 117, 118, 119, 120, 121, 122, 123, 124, 125, 126, 127, 128] (by decide +kernel) (by decide +kernel)
set_option maxRecDepth 20000 in
theorem gX8_miss_X8_asides : GoodIn wsX8_miss (wsV RX8 224 RX8 yX8_asides wsX8_asides) := goodIn_app (goodIn_of _ (by decide +kernel)) ggX8_miss_X8_asides
set_option maxRecDepth 20000 in
theorem ggX8_miss_X8_goesWith : GoodIn wsX8_miss wsX8_goesWith := goodIn_r _ [57, 58, 59, 60, 11, 61, 40, 62, 63, 64, 65, 66, 67, 68, 69, 45, 47, 52, 7, 49, 70, 71, 72, 73, 74, 75, 76, 77, 78, 79, 80, 81, 82, 83, 84, 96, 97, 98, 99, 100, 101, 102, 103, 104, 105, 106, 107, 108, 109, 110, 111, 112, 113, 114, 115, 116, 117, 118, 119, 120, 121, 122, 123, 124, 125, 126, 127, 128] (by decide +kernel) (by decide +kernel)
set_option maxRecDepth 20000 in
theorem gX8_miss_X8_goesWith : GoodIn wsX8_miss (wsV RX8 191 RX8 yX8_goesWith wsX8_goesWith) := goodIn_app (goodIn_of _ (by decide +kernel)) ggX8_miss_X8_goesWith
set_option maxRecDepth 20000 in
theorem ggX8_miss_X8_backs : GoodIn wsX8_miss wsX8_backs := goodIn_r _ [88, 46, 48, 50, 51, 53, 52, 89, 90, 91, 11, 92, 45, 47, 49, 7, 96, 97, 98, 99, 100, 101, 102, 103, 104, 105, 106, 107, 108, 109, 110, 111, 112, 113, 114, 115, 116, 117, 118, 119, 120, 121, 122, 123, 124, 125, 126, 127, 128] (by decide +kernel) (by decide +kernel)
set_option maxRecDepth 20000 in
theorem gX8_miss_X8_backs : GoodIn wsX8_miss (wsV RX8 227 RX8 yX8_backs wsX8_backs) := goodIn_app (goodIn_of _ (by decide +kernel)) ggX8_miss_X8_backs
set_option maxRecDepth 20000 in
theorem ggX8_miss_X8_common : GoodIn wsX8_miss wsX8_common := goodIn_r _ [95] (by decide +kernel) (by decide +kernel)
set_option maxRecDepth 20000 in
theorem gX8_miss_X8_common : GoodIn wsX8_miss (va_wsS RX8 266 yX8_common wsX8_common) := goodIn_app (goodIn_of _ (by decide +kernel)) ggX8_miss_X8_common
theorem dX8_miss_0 : decode cX8_miss 0 = .ok (.aload_n 0, 1) := by decide +kernel
theorem dX8_miss_1 : decode cX8_miss 1 = .ok (.getfield 136, 3) := by decide +kernel
theorem dX8_miss_4 : decode cX8_miss 4 = .ok (.ifCond .ne 7, 3) := by decide +kernel
theorem dX8_miss_7 : decode cX8_miss 7 = .ok (.ldc2_w 260, 3) := by decide +kernel
theorem dX8_miss_10 : decode cX8_miss 10 = .ok (.lreturn, 1) := by decide +kernel
theorem dX8_miss_11 : decode cX8_miss 11 = .ok (.iload_n 1, 1) := by decide +kernel
theorem dX8_miss_12 : decode cX8_miss 12 = .ok (.invokestatic 58, 3) := by decide +kernel
theorem dX8_miss_15 : decode cX8_miss 15 = .ok (.ifCond .eq 39, 3) := by decide +kernel
theorem dX8_miss_18 : decode cX8_miss 18 = .ok (.iload_n 3, 1) := by decide +kernel
theorem dX8_miss_19 : decode cX8_miss 19 = .ok (.i2l, 1) := by decide +kernel
theorem dX8_miss_20 : decode cX8_miss 20 = .ok (.lconst 1, 1) := by decide +kernel
theorem dX8_miss_21 : decode cX8_miss 21 = .ok (.ldc2_w 246, 3) := by decide +kernel
theorem dX8_miss_24 : decode cX8_miss 24 = .ok (.invokestatic 54, 3) := by decide +kernel
theorem dX8_miss_27 : decode cX8_miss 27 = .ok (.ifCond .eq 27, 3) := by decide +kernel
theorem dX8_miss_30 : decode cX8_miss 30 = .ok (.iload 4, 2) := by decide +kernel
theorem dX8_miss_32 : decode cX8_miss 32 = .ok (.i2l, 1) := by decide +kernel
theorem dX8_miss_33 : decode cX8_miss 33 = .ok (.lconst 0, 1) := by decide +kernel
theorem dX8_miss_34 : decode cX8_miss 34 = .ok (.ldc2_w 262, 3) := by decide +kernel
theorem dX8_miss_37 : decode cX8_miss 37 = .ok (.invokestatic 54, 3) := by decide +kernel
theorem dX8_miss_40 : decode cX8_miss 40 = .ok (.ifCond .eq 14, 3) := by decide +kernel
theorem dX8_miss_43 : decode cX8_miss 43 = .ok (.iload 5, 2) := by decide +kernel
theorem dX8_miss_45 : decode cX8_miss 45 = .ok (.i2l, 1) := by decide +kernel
theorem dX8_miss_46 : decode cX8_miss 46 = .ok (.lconst 0, 1) := by decide +kernel
theorem dX8_miss_47 : decode cX8_miss 47 = .ok (.lconst 1, 1) := by decide +kernel
theorem dX8_miss_48 : decode cX8_miss 48 = .ok (.invokestatic 54, 3) := by decide +kernel
theorem dX8_miss_51 : decode cX8_miss 51 = .ok (.ifCond .ne 7, 3) := by decide +kernel
theorem dX8_miss_54 : decode cX8_miss 54 = .ok (.ldc2_w 264, 3) := by decide +kernel
theorem dX8_miss_57 : decode cX8_miss 57 = .ok (.lreturn, 1) := by decide +kernel
theorem dX8_miss_58 : decode cX8_miss 58 = .ok (.aload_n 0, 1) := by decide +kernel
theorem dX8_miss_59 : decode cX8_miss 59 = .ok (.iload_n 1, 1) := by decide +kernel
theorem dX8_miss_60 : decode cX8_miss 60 = .ok (.iload_n 2, 1) := by decide +kernel
theorem dX8_miss_61 : decode cX8_miss 61 = .ok (.iload_n 3, 1) := by decide +kernel
theorem dX8_miss_62 : decode cX8_miss 62 = .ok (.invokevirtual 248, 3) := by decide +kernel
theorem dX8_miss_65 : decode cX8_miss 65 = .ok (.istore 6, 2) := by decide +kernel
theorem dX8_miss_67 : decode cX8_miss 67 = .ok (.iload 6, 2) := by decide +kernel
theorem dX8_miss_69 : decode cX8_miss 69 = .ok (.ifCond .le 11, 3) := by decide +kernel
theorem dX8_miss_72 : decode cX8_miss 72 = .ok (.aload_n 0, 1) := by decide +kernel
theorem dX8_miss_73 : decode cX8_miss 73 = .ok (.iload 6, 2) := by decide +kernel
theorem dX8_miss_75 : decode cX8_miss 75 = .ok (.invokevirtual 65, 3) := by decide +kernel
theorem dX8_miss_78 : decode cX8_miss 78 = .ok (.i2l, 1) := by decide +kernel
theorem dX8_miss_79 : decode cX8_miss 79 = .ok (.lreturn, 1) := by decide +kernel
theorem dX8_miss_80 : decode cX8_miss 80 = .ok (.bipush 40, 2) := by decide +kernel
theorem dX8_miss_82 : decode cX8_miss 82 = .ok (.iload_n 1, 1) := by decide +kernel
theorem dX8_miss_83 : decode cX8_miss 83 = .ok (.imul, 1) := by decide +kernel
theorem dX8_miss_84 : decode cX8_miss 84 = .ok (.iload_n 2, 1) := by decide +kernel
theorem dX8_miss_85 : decode cX8_miss 85 = .ok (.iadd, 1) := by decide +kernel
theorem dX8_miss_86 : decode cX8_miss 86 = .ok (.istore 7, 2) := by decide +kernel
theorem dX8_miss_88 : decode cX8_miss 88 = .ok (.aload_n 0, 1) := by decide +kernel
theorem dX8_miss_89 : decode cX8_miss 89 = .ok (.iload 7, 2) := by decide +kernel
theorem dX8_miss_91 : decode cX8_miss 91 = .ok (.iload_n 3, 1) := by decide +kernel
theorem dX8_miss_92 : decode cX8_miss 92 = .ok (.bipush 8, 2) := by decide +kernel
theorem dX8_miss_94 : decode cX8_miss 94 = .ok (.invokevirtual 251, 3) := by decide +kernel
theorem dX8_miss_97 : decode cX8_miss 97 = .ok (.ifCond .ne 7, 3) := by decide +kernel
theorem dX8_miss_100 : decode cX8_miss 100 = .ok (.ldc2_w 264, 3) := by decide +kernel
theorem dX8_miss_103 : decode cX8_miss 103 = .ok (.lreturn, 1) := by decide +kernel
theorem dX8_miss_104 : decode cX8_miss 104 = .ok (.iconst 0, 1) := by decide +kernel
theorem dX8_miss_105 : decode cX8_miss 105 = .ok (.istore 8, 2) := by decide +kernel
theorem dX8_miss_107 : decode cX8_miss 107 = .ok (.iconst 0, 1) := by decide +kernel
theorem dX8_miss_108 : decode cX8_miss 108 = .ok (.istore 9, 2) := by decide +kernel
theorem dX8_miss_110 : decode cX8_miss 110 = .ok (.iload 9, 2) := by decide +kernel
theorem dX8_miss_112 : decode cX8_miss 112 = .ok (.iload_n 3, 1) := by decide +kernel
theorem dX8_miss_113 : decode cX8_miss 113 = .ok (.if_icmp .ge 33, 3) := by decide +kernel
theorem dX8_miss_116 : decode cX8_miss 116 = .ok (.iload 8, 2) := by decide +kernel
theorem dX8_miss_118 : decode cX8_miss 118 = .ok (.aload_n 0, 1) := by decide +kernel
theorem dX8_miss_119 : decode cX8_miss 119 = .ok (.getfield 16, 3) := by decide +kernel
theorem dX8_miss_122 : decode cX8_miss 122 = .ok (.iload 7, 2) := by decide +kernel
theorem dX8_miss_124 : decode cX8_miss 124 = .ok (.iload 9, 2) := by decide +kernel
theorem dX8_miss_126 : decode cX8_miss 126 = .ok (.iadd, 1) := by decide +kernel
theorem dX8_miss_127 : decode cX8_miss 127 = .ok (.iaload, 1) := by decide +kernel
theorem dX8_miss_128 : decode cX8_miss 128 = .ok (.iconst (-1), 1) := by decide +kernel
theorem dX8_miss_129 : decode cX8_miss 129 = .ok (.if_icmp .ne 7, 3) := by decide +kernel
theorem dX8_miss_132 : decode cX8_miss 132 = .ok (.iconst 0, 1) := by decide +kernel
theorem dX8_miss_133 : decode cX8_miss 133 = .ok (.goto 4, 3) := by decide +kernel
theorem dX8_miss_136 : decode cX8_miss 136 = .ok (.iconst 1, 1) := by decide +kernel
theorem dX8_miss_137 : decode cX8_miss 137 = .ok (.iadd, 1) := by decide +kernel
theorem dX8_miss_138 : decode cX8_miss 138 = .ok (.istore 8, 2) := by decide +kernel
theorem dX8_miss_140 : decode cX8_miss 140 = .ok (.iinc 9 1, 3) := by decide +kernel
theorem dX8_miss_143 : decode cX8_miss 143 = .ok (.goto (-33), 3) := by decide +kernel
theorem dX8_miss_146 : decode cX8_miss 146 = .ok (.aload_n 0, 1) := by decide +kernel
theorem dX8_miss_147 : decode cX8_miss 147 = .ok (.invokevirtual 224, 3) := by decide +kernel
theorem dX8_miss_150 : decode cX8_miss 150 = .ok (.lconst 0, 1) := by decide +kernel
theorem dX8_miss_151 : decode cX8_miss 151 = .ok (.lstore 9, 2) := by decide +kernel
theorem dX8_miss_153 : decode cX8_miss 153 = .ok (.lconst 1, 1) := by decide +kernel
theorem dX8_miss_154 : decode cX8_miss 154 = .ok (.lstore 11, 2) := by decide +kernel
theorem dX8_miss_156 : decode cX8_miss 156 = .ok (.iconst 0, 1) := by decide +kernel
theorem dX8_miss_157 : decode cX8_miss 157 = .ok (.istore 13, 2) := by decide +kernel
theorem dX8_miss_159 : decode cX8_miss 159 = .ok (.iload 13, 2) := by decide +kernel
theorem dX8_miss_161 : decode cX8_miss 161 = .ok (.iload 8, 2) := by decide +kernel
theorem dX8_miss_163 : decode cX8_miss 163 = .ok (.if_icmp .ge 17, 3) := by decide +kernel
theorem dX8_miss_166 : decode cX8_miss 166 = .ok (.lload 11, 2) := by decide +kernel
theorem dX8_miss_168 : decode cX8_miss 168 = .ok (.ldc2_w 262, 3) := by decide +kernel
theorem dX8_miss_171 : decode cX8_miss 171 = .ok (.lmul, 1) := by decide +kernel
theorem dX8_miss_172 : decode cX8_miss 172 = .ok (.lstore 11, 2) := by decide +kernel
theorem dX8_miss_174 : decode cX8_miss 174 = .ok (.iinc 13 1, 3) := by decide +kernel
theorem dX8_miss_177 : decode cX8_miss 177 = .ok (.goto (-18), 3) := by decide +kernel
theorem dX8_miss_180 : decode cX8_miss 180 = .ok (.iconst 0, 1) := by decide +kernel
theorem dX8_miss_181 : decode cX8_miss 181 = .ok (.istore 13, 2) := by decide +kernel
theorem dX8_miss_183 : decode cX8_miss 183 = .ok (.iload 13, 2) := by decide +kernel
theorem dX8_miss_185 : decode cX8_miss 185 = .ok (.iconst 1, 1) := by decide +kernel
theorem dX8_miss_186 : decode cX8_miss 186 = .ok (.iload 8, 2) := by decide +kernel
theorem dX8_miss_188 : decode cX8_miss 188 = .ok (.ishl, 1) := by decide +kernel
theorem dX8_miss_189 : decode cX8_miss 189 = .ok (.if_icmp .ge 139, 3) := by decide +kernel
theorem dX8_miss_192 : decode cX8_miss 192 = .ok (.lconst 1, 1) := by decide +kernel
theorem dX8_miss_193 : decode cX8_miss 193 = .ok (.lstore 14, 2) := by decide +kernel
theorem dX8_miss_195 : decode cX8_miss 195 = .ok (.iconst 0, 1) := by decide +kernel
theorem dX8_miss_196 : decode cX8_miss 196 = .ok (.istore 16, 2) := by decide +kernel
theorem dX8_miss_198 : decode cX8_miss 198 = .ok (.iconst 0, 1) := by decide +kernel
theorem dX8_miss_199 : decode cX8_miss 199 = .ok (.istore 17, 2) := by decide +kernel
theorem dX8_miss_201 : decode cX8_miss 201 = .ok (.iload 17, 2) := by decide +kernel
theorem dX8_miss_203 : decode cX8_miss 203 = .ok (.iload_n 3, 1) := by decide +kernel
theorem dX8_miss_204 : decode cX8_miss 204 = .ok (.if_icmp .ge 95, 3) := by decide +kernel
theorem dX8_miss_207 : decode cX8_miss 207 = .ok (.aload_n 0, 1) := by decide +kernel
theorem dX8_miss_208 : decode cX8_miss 208 = .ok (.getfield 16, 3) := by decide +kernel
theorem dX8_miss_211 : decode cX8_miss 211 = .ok (.iload 7, 2) := by decide +kernel
theorem dX8_miss_213 : decode cX8_miss 213 = .ok (.iload 17, 2) := by decide +kernel
theorem dX8_miss_215 : decode cX8_miss 215 = .ok (.iadd, 1) := by decide +kernel
theorem dX8_miss_216 : decode cX8_miss 216 = .ok (.iaload, 1) := by decide +kernel
theorem dX8_miss_217 : decode cX8_miss 217 = .ok (.istore 18, 2) := by decide +kernel
theorem dX8_miss_219 : decode cX8_miss 219 = .ok (.iload 18, 2) := by decide +kernel
theorem dX8_miss_221 : decode cX8_miss 221 = .ok (.ifCond .lt 59, 3) := by decide +kernel
theorem dX8_miss_224 : decode cX8_miss 224 = .ok (.iload 13, 2) := by decide +kernel
theorem dX8_miss_226 : decode cX8_miss 226 = .ok (.iload 16, 2) := by decide +kernel
theorem dX8_miss_228 : decode cX8_miss 228 = .ok (.ishr, 1) := by decide +kernel
theorem dX8_miss_229 : decode cX8_miss 229 = .ok (.iconst 1, 1) := by decide +kernel
theorem dX8_miss_230 : decode cX8_miss 230 = .ok (.iand, 1) := by decide +kernel
theorem dX8_miss_231 : decode cX8_miss 231 = .ok (.iconst 1, 1) := by decide +kernel
theorem dX8_miss_232 : decode cX8_miss 232 = .ok (.if_icmp .ne 7, 3) := by decide +kernel
theorem dX8_miss_235 : decode cX8_miss 235 = .ok (.iconst 1, 1) := by decide +kernel
theorem dX8_miss_236 : decode cX8_miss 236 = .ok (.goto 4, 3) := by decide +kernel
theorem dX8_miss_239 : decode cX8_miss 239 = .ok (.iconst 0, 1) := by decide +kernel
theorem dX8_miss_240 : decode cX8_miss 240 = .ok (.istore 19, 2) := by decide +kernel
theorem dX8_miss_242 : decode cX8_miss 242 = .ok (.lload 14, 2) := by decide +kernel
theorem dX8_miss_244 : decode cX8_miss 244 = .ok (.iload 19, 2) := by decide +kernel
theorem dX8_miss_246 : decode cX8_miss 246 = .ok (.ifCond .eq 9, 3) := by decide +kernel
theorem dX8_miss_249 : decode cX8_miss 249 = .ok (.iload 4, 2) := by decide +kernel
theorem dX8_miss_251 : decode cX8_miss 251 = .ok (.i2l, 1) := by decide +kernel
theorem dX8_miss_252 : decode cX8_miss 252 = .ok (.goto 9, 3) := by decide +kernel
theorem dX8_miss_255 : decode cX8_miss 255 = .ok (.bipush 10, 2) := by decide +kernel
theorem dX8_miss_257 : decode cX8_miss 257 = .ok (.iload 4, 2) := by decide +kernel
theorem dX8_miss_259 : decode cX8_miss 259 = .ok (.isub, 1) := by decide +kernel
theorem dX8_miss_260 : decode cX8_miss 260 = .ok (.i2l, 1) := by decide +kernel
theorem dX8_miss_261 : decode cX8_miss 261 = .ok (.lmul, 1) := by decide +kernel
theorem dX8_miss_262 : decode cX8_miss 262 = .ok (.lstore 14, 2) := by decide +kernel
theorem dX8_miss_264 : decode cX8_miss 264 = .ok (.iload 19, 2) := by decide +kernel
theorem dX8_miss_266 : decode cX8_miss 266 = .ok (.ifCond .eq 7, 3) := by decide +kernel
theorem dX8_miss_269 : decode cX8_miss 269 = .ok (.iconst (-1), 1) := by decide +kernel
theorem dX8_miss_270 : decode cX8_miss 270 = .ok (.goto 5, 3) := by decide +kernel
theorem dX8_miss_273 : decode cX8_miss 273 = .ok (.iload 18, 2) := by decide +kernel
theorem dX8_miss_275 : decode cX8_miss 275 = .ok (.istore 18, 2) := by decide +kernel
theorem dX8_miss_277 : decode cX8_miss 277 = .ok (.iinc 16 1, 3) := by decide +kernel
theorem dX8_miss_280 : decode cX8_miss 280 = .ok (.aload_n 0, 1) := by decide +kernel
theorem dX8_miss_281 : decode cX8_miss 281 = .ok (.getfield 159, 3) := by decide +kernel
theorem dX8_miss_284 : decode cX8_miss 284 = .ok (.ifCond .ne 9, 3) := by decide +kernel
theorem dX8_miss_287 : decode cX8_miss 287 = .ok (.aload_n 0, 1) := by decide +kernel
theorem dX8_miss_288 : decode cX8_miss 288 = .ok (.iload 18, 2) := by decide +kernel
theorem dX8_miss_290 : decode cX8_miss 290 = .ok (.invokevirtual 191, 3) := by decide +kernel
theorem dX8_miss_293 : decode cX8_miss 293 = .ok (.iinc 17 1, 3) := by decide +kernel
theorem dX8_miss_296 : decode cX8_miss 296 = .ok (.goto (-95), 3) := by decide +kernel
theorem dX8_miss_299 : decode cX8_miss 299 = .ok (.lload 9, 2) := by decide +kernel
theorem dX8_miss_301 : decode cX8_miss 301 = .ok (.aload_n 0, 1) := by decide +kernel
theorem dX8_miss_302 : decode cX8_miss 302 = .ok (.getfield 159, 3) := by decide +kernel
theorem dX8_miss_305 : decode cX8_miss 305 = .ok (.iconst 2, 1) := by decide +kernel
theorem dX8_miss_306 : decode cX8_miss 306 = .ok (.if_icmp .ne 8, 3) := by decide +kernel
theorem dX8_miss_309 : decode cX8_miss 309 = .ok (.lload 14, 2) := by decide +kernel
theorem dX8_miss_311 : decode cX8_miss 311 = .ok (.goto 4, 3) := by decide +kernel
theorem dX8_miss_314 : decode cX8_miss 314 = .ok (.lconst 0, 1) := by decide +kernel
theorem dX8_miss_315 : decode cX8_miss 315 = .ok (.ladd, 1) := by decide +kernel
theorem dX8_miss_316 : decode cX8_miss 316 = .ok (.lstore 9, 2) := by decide +kernel
theorem dX8_miss_318 : decode cX8_miss 318 = .ok (.aload_n 0, 1) := by decide +kernel
theorem dX8_miss_319 : decode cX8_miss 319 = .ok (.invokevirtual 227, 3) := by decide +kernel
theorem dX8_miss_322 : decode cX8_miss 322 = .ok (.iinc 13 1, 3) := by decide +kernel
theorem dX8_miss_325 : decode cX8_miss 325 = .ok (.goto (-142), 3) := by decide +kernel
theorem dX8_miss_328 : decode cX8_miss 328 = .ok (.lload 9, 2) := by decide +kernel
theorem dX8_miss_330 : decode cX8_miss 330 = .ok (.lload 11, 2) := by decide +kernel
theorem dX8_miss_332 : decode cX8_miss 332 = .ok (.invokestatic 266, 3) := by decide +kernel
theorem dX8_miss_335 : decode cX8_miss 335 = .ok (.lstore 13, 2) := by decide +kernel
theorem dX8_miss_337 : decode cX8_miss 337 = .ok (.aload_n 0, 1) := by decide +kernel
theorem dX8_miss_338 : decode cX8_miss 338 = .ok (.iconst 0, 1) := by decide +kernel
theorem dX8_miss_339 : decode cX8_miss 339 = .ok (.putfield 47, 3) := by decide +kernel
theorem dX8_miss_342 : decode cX8_miss 342 = .ok (.iload 5, 2) := by decide +kernel
theorem dX8_miss_344 : decode cX8_miss 344 = .ok (.ifCond .ne 11, 3) := by decide +kernel
theorem dX8_miss_347 : decode cX8_miss 347 = .ok (.lload 9, 2) := by decide +kernel
theorem dX8_miss_349 : decode cX8_miss 349 = .ok (.lload 13, 2) := by decide +kernel
theorem dX8_miss_351 : decode cX8_miss 351 = .ok (.ldiv, 1) := by decide +kernel
theorem dX8_miss_352 : decode cX8_miss 352 = .ok (.goto 8, 3) := by decide +kernel
theorem dX8_miss_355 : decode cX8_miss 355 = .ok (.lload 11, 2) := by decide +kernel
theorem dX8_miss_357 : decode cX8_miss 357 = .ok (.lload 13, 2) := by decide +kernel
theorem dX8_miss_359 : decode cX8_miss 359 = .ok (.ldiv, 1) := by decide +kernel
theorem dX8_miss_360 : decode cX8_miss 360 = .ok (.lreturn, 1) := by decide +kernel
set_option maxRecDepth 20000 in
theorem ggX8_drawn_X8_in : GoodIn wsX8_drawn wsX8_in := goodIn_r _ [14] (by decide +kernel) (by decide +kernel)
set_option maxRecDepth 20000 in
theorem gX8_drawn_X8_in : GoodIn wsX8_drawn (va_wsS RX8 54 yX8_in wsX8_in) := goodIn_app (goodIn_of _ (by decide +kernel)) ggX8_drawn_X8_in
set_option maxRecDepth 20000 in
theorem ggX8_drawn_X8_asides : GoodIn wsX8_drawn wsX8_asides := goodIn_r _ [18, 10, 19, 20, 21, 22, 23, 6, 24, 25, 26, 71, 72, 73, 74, 75, 76, 77, 78, 79, 80, 81, 82, 83, 84, 85, 86, 87, 88, 89, 90, 91, 92, 93, 94, 95, 96, 97, 98, 99, 100, 101, 102, 103] (by decide +kernel) (by decide +kernel)
set_option maxRecDepth 20000 in
theorem gX8_drawn_X8_asides : GoodIn wsX8_drawn (wsV RX8 224 RX8 yX8_asides wsX8_asides) := goodIn_app (goodIn_of _ (by decide +kernel)) ggX8_drawn_X8_asides
set_option maxRecDepth 20000 in
theorem ggX8_drawn_X8_isTap : GoodIn wsX8_drawn wsX8_isTap := goodIn_r _ [30, 31, 11, 12, 13, 14, 71, 72, 73, 74, 75, 76, 77, 78, 79, 80, 81, 82, 83, 84, 85, 86, 87, 88, 89, 90, 91, 92, 93, 94, 95, 96, 97, 98, 99, 100, 101, 102, 103] (by decide +kernel) (by decide +kernel)
set_option maxRecDepth 20000 in
theorem gX8_drawn_X8_isTap : GoodIn wsX8_drawn (wsV RX8 185 RX8 yX8_isTap wsX8_isTap) := goodIn_app (goodIn_of _ (by decide +kernel)) ggX8_drawn_X8_isTap
set_option maxRecDepth 20000 in
theorem ggX8_drawn_X8_goesWith : GoodIn wsX8_drawn wsX8_goesWith := goodIn_r _ [35, 36, 37, 38, 13, 39, 31, 40, 41, 42, 43, 44, 45, 46, 47, 10, 20, 25, 6, 22, 48, 49, 50, 51, 52, 53, 54, 55, 56, 57, 58, 59, 60, 61, 62, 71, 72, 73, 74, 75, 76, 77, 78, 79, 80, 81, 82, 83, 84, 85, 86, 87, 88, 89, 90, 91, 92, 93, 94, 95, 96, 97, 98, 99, 100, 101, 102, 103] (by decide +kernel) (by decide +kernel)
set_option maxRecDepth 20000 in
theorem gX8_drawn_X8_goesWith : GoodIn wsX8_drawn (wsV RX8 191 RX8 yX8_goesWith wsX8_goesWith) := goodIn_app (goodIn_of _ (by decide +kernel)) ggX8_drawn_X8_goesWith
set_option maxRecDepth 20000 in
theorem ggX8_drawn_X8_backs : GoodIn wsX8_drawn wsX8_backs := goodIn_r _ [66, 19, 21, 23, 24, 26, 25, 67, 68, 69, 13, 70, 10, 20, 22, 6, 71, 72, 73, 74, 75, 76, 77, 78, 79, 80, 81, 82, 83, 84, 85, 86, 87, 88, 89, 90, 91, 92, 93, 94, 95, 96, 97, 98, 99, 100, 101, 102, 103] (by decide +kernel) (by decide +kernel)
set_option maxRecDepth 20000 in
theorem gX8_drawn_X8_backs : GoodIn wsX8_drawn (wsV RX8 227 RX8 yX8_backs wsX8_backs) := goodIn_app (goodIn_of _ (by decide +kernel)) ggX8_drawn_X8_backs
theorem dX8_drawn_0 : decode cX8_drawn 0 = .ok (.aload_n 0, 1) := by decide +kernel
theorem dX8_drawn_1 : decode cX8_drawn 1 = .ok (.getfield 136, 3) := by decide +kernel
theorem dX8_drawn_4 : decode cX8_drawn 4 = .ok (.ifCond .ne 6, 3) := by decide +kernel
theorem dX8_drawn_7 : decode cX8_drawn 7 = .ok (.ldc 184, 2) := by decide +kernel
theorem dX8_drawn_9 : decode cX8_drawn 9 = .ok (.ireturn, 1) := by decide +kernel
theorem dX8_drawn_10 : decode cX8_drawn 10 = .ok (.iload_n 1, 1) := by decide +kernel
theorem dX8_drawn_11 : decode cX8_drawn 11 = .ok (.i2l, 1) := by decide +kernel
theorem dX8_drawn_12 : decode cX8_drawn 12 = .ok (.lconst 0, 1) := by decide +kernel
theorem dX8_drawn_13 : decode cX8_drawn 13 = .ok (.ldc2_w 220, 3) := by decide +kernel
theorem dX8_drawn_16 : decode cX8_drawn 16 = .ok (.invokestatic 54, 3) := by decide +kernel
theorem dX8_drawn_19 : decode cX8_drawn 19 = .ok (.ifCond .eq 25, 3) := by decide +kernel
theorem dX8_drawn_22 : decode cX8_drawn 22 = .ok (.iload_n 2, 1) := by decide +kernel
theorem dX8_drawn_23 : decode cX8_drawn 23 = .ok (.i2l, 1) := by decide +kernel
theorem dX8_drawn_24 : decode cX8_drawn 24 = .ok (.lconst 1, 1) := by decide +kernel
theorem dX8_drawn_25 : decode cX8_drawn 25 = .ok (.ldc2_w 270, 3) := by decide +kernel
theorem dX8_drawn_28 : decode cX8_drawn 28 = .ok (.invokestatic 54, 3) := by decide +kernel
theorem dX8_drawn_31 : decode cX8_drawn 31 = .ok (.ifCond .eq 13, 3) := by decide +kernel
theorem dX8_drawn_34 : decode cX8_drawn 34 = .ok (.iload_n 3, 1) := by decide +kernel
theorem dX8_drawn_35 : decode cX8_drawn 35 = .ok (.i2l, 1) := by decide +kernel
theorem dX8_drawn_36 : decode cX8_drawn 36 = .ok (.lconst 0, 1) := by decide +kernel
theorem dX8_drawn_37 : decode cX8_drawn 37 = .ok (.lconst 1, 1) := by decide +kernel
theorem dX8_drawn_38 : decode cX8_drawn 38 = .ok (.invokestatic 54, 3) := by decide +kernel
theorem dX8_drawn_41 : decode cX8_drawn 41 = .ok (.ifCond .ne 6, 3) := by decide +kernel
theorem dX8_drawn_44 : decode cX8_drawn 44 = .ok (.ldc 64, 2) := by decide +kernel
theorem dX8_drawn_46 : decode cX8_drawn 46 = .ok (.ireturn, 1) := by decide +kernel
theorem dX8_drawn_47 : decode cX8_drawn 47 = .ok (.aload_n 0, 1) := by decide +kernel
theorem dX8_drawn_48 : decode cX8_drawn 48 = .ok (.invokevirtual 224, 3) := by decide +kernel
theorem dX8_drawn_51 : decode cX8_drawn 51 = .ok (.iload_n 2, 1) := by decide +kernel
theorem dX8_drawn_52 : decode cX8_drawn 52 = .ok (.i2l, 1) := by decide +kernel
theorem dX8_drawn_53 : decode cX8_drawn 53 = .ok (.lstore 4, 2) := by decide +kernel
theorem dX8_drawn_55 : decode cX8_drawn 55 = .ok (.iconst 0, 1) := by decide +kernel
theorem dX8_drawn_56 : decode cX8_drawn 56 = .ok (.istore 6, 2) := by decide +kernel
theorem dX8_drawn_58 : decode cX8_drawn 58 = .ok (.iload 6, 2) := by decide +kernel
theorem dX8_drawn_60 : decode cX8_drawn 60 = .ok (.iload_n 1, 1) := by decide +kernel
theorem dX8_drawn_61 : decode cX8_drawn 61 = .ok (.if_icmp .ge 56, 3) := by decide +kernel
theorem dX8_drawn_64 : decode cX8_drawn 64 = .ok (.aload_n 0, 1) := by decide +kernel
theorem dX8_drawn_65 : decode cX8_drawn 65 = .ok (.getfield 159, 3) := by decide +kernel
theorem dX8_drawn_68 : decode cX8_drawn 68 = .ok (.ifCond .ne 49, 3) := by decide +kernel
theorem dX8_drawn_71 : decode cX8_drawn 71 = .ok (.lload 4, 2) := by decide +kernel
theorem dX8_drawn_73 : decode cX8_drawn 73 = .ok (.ldc2_w 272, 3) := by decide +kernel
theorem dX8_drawn_76 : decode cX8_drawn 76 = .ok (.lmul, 1) := by decide +kernel
theorem dX8_drawn_77 : decode cX8_drawn 77 = .ok (.ldc2_w 274, 3) := by decide +kernel
theorem dX8_drawn_80 : decode cX8_drawn 80 = .ok (.lrem, 1) := by decide +kernel
theorem dX8_drawn_81 : decode cX8_drawn 81 = .ok (.lstore 4, 2) := by decide +kernel
theorem dX8_drawn_83 : decode cX8_drawn 83 = .ok (.lload 4, 2) := by decide +kernel
theorem dX8_drawn_85 : decode cX8_drawn 85 = .ok (.ldc2_w 254, 3) := by decide +kernel
theorem dX8_drawn_88 : decode cX8_drawn 88 = .ok (.lrem, 1) := by decide +kernel
theorem dX8_drawn_89 : decode cX8_drawn 89 = .ok (.l2i, 1) := by decide +kernel
theorem dX8_drawn_90 : decode cX8_drawn 90 = .ok (.istore 7, 2) := by decide +kernel
theorem dX8_drawn_92 : decode cX8_drawn 92 = .ok (.aload_n 0, 1) := by decide +kernel
theorem dX8_drawn_93 : decode cX8_drawn 93 = .ok (.aload_n 0, 1) := by decide +kernel
theorem dX8_drawn_94 : decode cX8_drawn 94 = .ok (.iload 7, 2) := by decide +kernel
theorem dX8_drawn_96 : decode cX8_drawn 96 = .ok (.invokevirtual 185, 3) := by decide +kernel
theorem dX8_drawn_99 : decode cX8_drawn 99 = .ok (.ifCond .eq 8, 3) := by decide +kernel
theorem dX8_drawn_102 : decode cX8_drawn 102 = .ok (.iload 7, 2) := by decide +kernel
theorem dX8_drawn_104 : decode cX8_drawn 104 = .ok (.goto 4, 3) := by decide +kernel
theorem dX8_drawn_107 : decode cX8_drawn 107 = .ok (.iconst (-1), 1) := by decide +kernel
theorem dX8_drawn_108 : decode cX8_drawn 108 = .ok (.invokevirtual 191, 3) := by decide +kernel
theorem dX8_drawn_111 : decode cX8_drawn 111 = .ok (.iinc 6 1, 3) := by decide +kernel
theorem dX8_drawn_114 : decode cX8_drawn 114 = .ok (.goto (-56), 3) := by decide +kernel
theorem dX8_drawn_117 : decode cX8_drawn 117 = .ok (.aload_n 0, 1) := by decide +kernel
theorem dX8_drawn_118 : decode cX8_drawn 118 = .ok (.getfield 150, 3) := by decide +kernel
theorem dX8_drawn_121 : decode cX8_drawn 121 = .ok (.istore 7, 2) := by decide +kernel
theorem dX8_drawn_123 : decode cX8_drawn 123 = .ok (.aload_n 0, 1) := by decide +kernel
theorem dX8_drawn_124 : decode cX8_drawn 124 = .ok (.invokevirtual 227, 3) := by decide +kernel
theorem dX8_drawn_127 : decode cX8_drawn 127 = .ok (.iload_n 3, 1) := by decide +kernel
theorem dX8_drawn_128 : decode cX8_drawn 128 = .ok (.ifCond .ne 8, 3) := by decide +kernel
theorem dX8_drawn_131 : decode cX8_drawn 131 = .ok (.iload 7, 2) := by decide +kernel
theorem dX8_drawn_133 : decode cX8_drawn 133 = .ok (.goto 5, 3) := by decide +kernel
theorem dX8_drawn_136 : decode cX8_drawn 136 = .ok (.iload 6, 2) := by decide +kernel
theorem dX8_drawn_138 : decode cX8_drawn 138 = .ok (.ireturn, 1) := by decide +kernel
set_option maxRecDepth 20000 in
theorem ggX8_image_X8_in : GoodIn wsX8_image wsX8_in := goodIn_r _ [9] (by decide +kernel) (by decide +kernel)
set_option maxRecDepth 20000 in
theorem gX8_image_X8_in : GoodIn wsX8_image (va_wsS RX8 54 yX8_in wsX8_in) := goodIn_app (goodIn_of _ (by decide +kernel)) ggX8_image_X8_in
set_option maxRecDepth 20000 in
theorem ggX8_image_X8_hoopOf : GoodIn wsX8_image wsX8_hoopOf := goodIn_r _ [13, 14, 15, 16, 17, 18, 19, 20, 21, 22, 23, 24, 25, 26, 27, 28, 29, 30, 31, 32, 33, 34, 35, 36, 37, 38, 39, 40, 41, 42, 43, 44, 45, 46, 47, 48, 49, 50, 51] (by decide +kernel) (by decide +kernel)
set_option maxRecDepth 20000 in
theorem gX8_image_X8_hoopOf : GoodIn wsX8_image (wsV RX8 202 RX8 yX8_hoopOf wsX8_hoopOf) := goodIn_app (goodIn_of _ (by decide +kernel)) ggX8_image_X8_hoopOf
theorem dX8_image_0 : decode cX8_image 0 = .ok (.iload_n 1, 1) := by decide +kernel
theorem dX8_image_1 : decode cX8_image 1 = .ok (.i2l, 1) := by decide +kernel
theorem dX8_image_2 : decode cX8_image 2 = .ok (.lconst 0, 1) := by decide +kernel
theorem dX8_image_3 : decode cX8_image 3 = .ok (.lconst 1, 1) := by decide +kernel
theorem dX8_image_4 : decode cX8_image 4 = .ok (.invokestatic 54, 3) := by decide +kernel
theorem dX8_image_7 : decode cX8_image 7 = .ok (.ifCond .ne 6, 3) := by decide +kernel
theorem dX8_image_10 : decode cX8_image 10 = .ok (.ldc 64, 2) := by decide +kernel
theorem dX8_image_12 : decode cX8_image 12 = .ok (.ireturn, 1) := by decide +kernel
theorem dX8_image_13 : decode cX8_image 13 = .ok (.aload_n 0, 1) := by decide +kernel
theorem dX8_image_14 : decode cX8_image 14 = .ok (.getfield 136, 3) := by decide +kernel
theorem dX8_image_17 : decode cX8_image 17 = .ok (.ifCond .ne 6, 3) := by decide +kernel
theorem dX8_image_20 : decode cX8_image 20 = .ok (.ldc 184, 2) := by decide +kernel
theorem dX8_image_22 : decode cX8_image 22 = .ok (.ireturn, 1) := by decide +kernel
theorem dX8_image_23 : decode cX8_image 23 = .ok (.bipush 44, 2) := by decide +kernel
theorem dX8_image_25 : decode cX8_image 25 = .ok (.iload_n 1, 1) := by decide +kernel
theorem dX8_image_26 : decode cX8_image 26 = .ok (.imul, 1) := by decide +kernel
theorem dX8_image_27 : decode cX8_image 27 = .ok (.istore_n 2, 1) := by decide +kernel
theorem dX8_image_28 : decode cX8_image 28 = .ok (.aload_n 0, 1) := by decide +kernel
theorem dX8_image_29 : decode cX8_image 29 = .ok (.getfield 41, 3) := by decide +kernel
theorem dX8_image_32 : decode cX8_image 32 = .ok (.iload_n 2, 1) := by decide +kernel
theorem dX8_image_33 : decode cX8_image 33 = .ok (.iconst 1, 1) := by decide +kernel
theorem dX8_image_34 : decode cX8_image 34 = .ok (.iastore, 1) := by decide +kernel
theorem dX8_image_35 : decode cX8_image 35 = .ok (.iconst 0, 1) := by decide +kernel
theorem dX8_image_36 : decode cX8_image 36 = .ok (.istore_n 3, 1) := by decide +kernel
theorem dX8_image_37 : decode cX8_image 37 = .ok (.iload_n 3, 1) := by decide +kernel
theorem dX8_image_38 : decode cX8_image 38 = .ok (.iconst 5, 1) := by decide +kernel
theorem dX8_image_39 : decode cX8_image 39 = .ok (.if_icmp .ge 24, 3) := by decide +kernel
theorem dX8_image_42 : decode cX8_image 42 = .ok (.aload_n 0, 1) := by decide +kernel
theorem dX8_image_43 : decode cX8_image 43 = .ok (.getfield 41, 3) := by decide +kernel
theorem dX8_image_46 : decode cX8_image 46 = .ok (.iload_n 2, 1) := by decide +kernel
theorem dX8_image_47 : decode cX8_image 47 = .ok (.iconst 1, 1) := by decide +kernel
theorem dX8_image_48 : decode cX8_image 48 = .ok (.iadd, 1) := by decide +kernel
theorem dX8_image_49 : decode cX8_image 49 = .ok (.iload_n 3, 1) := by decide +kernel
theorem dX8_image_50 : decode cX8_image 50 = .ok (.iadd, 1) := by decide +kernel
theorem dX8_image_51 : decode cX8_image 51 = .ok (.aload_n 0, 1) := by decide +kernel
theorem dX8_image_52 : decode cX8_image 52 = .ok (.iload_n 3, 1) := by decide +kernel
theorem dX8_image_53 : decode cX8_image 53 = .ok (.invokevirtual 202, 3) := by decide +kernel
theorem dX8_image_56 : decode cX8_image 56 = .ok (.iastore, 1) := by decide +kernel
theorem dX8_image_57 : decode cX8_image 57 = .ok (.iinc 3 1, 3) := by decide +kernel
theorem dX8_image_60 : decode cX8_image 60 = .ok (.goto (-23), 3) := by decide +kernel
theorem dX8_image_63 : decode cX8_image 63 = .ok (.iconst 0, 1) := by decide +kernel
theorem dX8_image_64 : decode cX8_image 64 = .ok (.istore_n 3, 1) := by decide +kernel
theorem dX8_image_65 : decode cX8_image 65 = .ok (.iload_n 3, 1) := by decide +kernel
theorem dX8_image_66 : decode cX8_image 66 = .ok (.bipush 38, 2) := by decide +kernel
theorem dX8_image_68 : decode cX8_image 68 = .ok (.if_icmp .ge 26, 3) := by decide +kernel
theorem dX8_image_71 : decode cX8_image 71 = .ok (.aload_n 0, 1) := by decide +kernel
theorem dX8_image_72 : decode cX8_image 72 = .ok (.getfield 41, 3) := by decide +kernel
theorem dX8_image_75 : decode cX8_image 75 = .ok (.iload_n 2, 1) := by decide +kernel
theorem dX8_image_76 : decode cX8_image 76 = .ok (.bipush 6, 2) := by decide +kernel
theorem dX8_image_78 : decode cX8_image 78 = .ok (.iadd, 1) := by decide +kernel
theorem dX8_image_79 : decode cX8_image 79 = .ok (.iload_n 3, 1) := by decide +kernel
theorem dX8_image_80 : decode cX8_image 80 = .ok (.iadd, 1) := by decide +kernel
theorem dX8_image_81 : decode cX8_image 81 = .ok (.aload_n 0, 1) := by decide +kernel
theorem dX8_image_82 : decode cX8_image 82 = .ok (.getfield 22, 3) := by decide +kernel
theorem dX8_image_85 : decode cX8_image 85 = .ok (.iload_n 3, 1) := by decide +kernel
theorem dX8_image_86 : decode cX8_image 86 = .ok (.iaload, 1) := by decide +kernel
theorem dX8_image_87 : decode cX8_image 87 = .ok (.iastore, 1) := by decide +kernel
theorem dX8_image_88 : decode cX8_image 88 = .ok (.iinc 3 1, 3) := by decide +kernel
theorem dX8_image_91 : decode cX8_image 91 = .ok (.goto (-26), 3) := by decide +kernel
theorem dX8_image_94 : decode cX8_image 94 = .ok (.iconst 1, 1) := by decide +kernel
theorem dX8_image_95 : decode cX8_image 95 = .ok (.ireturn, 1) := by decide +kernel
set_option maxRecDepth 20000 in
theorem ggX8_restore_X8_in : GoodIn wsX8_restore wsX8_in := goodIn_r _ [10] (by decide +kernel) (by decide +kernel)
set_option maxRecDepth 20000 in
theorem gX8_restore_X8_in : GoodIn wsX8_restore (va_wsS RX8 54 yX8_in wsX8_in) := goodIn_app (goodIn_of _ (by decide +kernel)) ggX8_restore_X8_in
set_option maxRecDepth 20000 in
theorem ggX8_restore_X8_puts : GoodIn wsX8_restore wsX8_puts := goodIn_r _ [14, 15, 16, 17, 18, 19, 20, 21, 22, 23, 24, 25, 26, 27, 28, 29, 30, 31, 32, 33, 34, 35, 36, 37, 38, 39, 40, 41, 42, 43, 44, 45, 46, 47, 48, 49, 50, 51] (by decide +kernel) (by decide +kernel)
set_option maxRecDepth 20000 in
theorem gX8_restore_X8_puts : GoodIn wsX8_restore (wsV RX8 140 RX8 yX8_puts wsX8_puts) := goodIn_app (goodIn_of _ (by decide +kernel)) ggX8_restore_X8_puts
theorem dX8_restore_0 : decode cX8_restore 0 = .ok (.iload_n 1, 1) := by decide +kernel
theorem dX8_restore_1 : decode cX8_restore 1 = .ok (.i2l, 1) := by decide +kernel
theorem dX8_restore_2 : decode cX8_restore 2 = .ok (.lconst 0, 1) := by decide +kernel
theorem dX8_restore_3 : decode cX8_restore 3 = .ok (.lconst 1, 1) := by decide +kernel
theorem dX8_restore_4 : decode cX8_restore 4 = .ok (.invokestatic 54, 3) := by decide +kernel
theorem dX8_restore_7 : decode cX8_restore 7 = .ok (.ifCond .ne 6, 3) := by decide +kernel
theorem dX8_restore_10 : decode cX8_restore 10 = .ok (.ldc 64, 2) := by decide +kernel
theorem dX8_restore_12 : decode cX8_restore 12 = .ok (.ireturn, 1) := by decide +kernel
theorem dX8_restore_13 : decode cX8_restore 13 = .ok (.bipush 44, 2) := by decide +kernel
theorem dX8_restore_15 : decode cX8_restore 15 = .ok (.iload_n 1, 1) := by decide +kernel
theorem dX8_restore_16 : decode cX8_restore 16 = .ok (.imul, 1) := by decide +kernel
theorem dX8_restore_17 : decode cX8_restore 17 = .ok (.istore_n 2, 1) := by decide +kernel
theorem dX8_restore_18 : decode cX8_restore 18 = .ok (.aload_n 0, 1) := by decide +kernel
theorem dX8_restore_19 : decode cX8_restore 19 = .ok (.getfield 41, 3) := by decide +kernel
theorem dX8_restore_22 : decode cX8_restore 22 = .ok (.iload_n 2, 1) := by decide +kernel
theorem dX8_restore_23 : decode cX8_restore 23 = .ok (.iaload, 1) := by decide +kernel
theorem dX8_restore_24 : decode cX8_restore 24 = .ok (.ifCond .ne 6, 3) := by decide +kernel
theorem dX8_restore_27 : decode cX8_restore 27 = .ok (.ldc 184, 2) := by decide +kernel
theorem dX8_restore_29 : decode cX8_restore 29 = .ok (.ireturn, 1) := by decide +kernel
theorem dX8_restore_30 : decode cX8_restore 30 = .ok (.aload_n 0, 1) := by decide +kernel
theorem dX8_restore_31 : decode cX8_restore 31 = .ok (.aload_n 0, 1) := by decide +kernel
theorem dX8_restore_32 : decode cX8_restore 32 = .ok (.getfield 41, 3) := by decide +kernel
theorem dX8_restore_35 : decode cX8_restore 35 = .ok (.iload_n 2, 1) := by decide +kernel
theorem dX8_restore_36 : decode cX8_restore 36 = .ok (.iconst 1, 1) := by decide +kernel
theorem dX8_restore_37 : decode cX8_restore 37 = .ok (.iadd, 1) := by decide +kernel
theorem dX8_restore_38 : decode cX8_restore 38 = .ok (.iaload, 1) := by decide +kernel
theorem dX8_restore_39 : decode cX8_restore 39 = .ok (.aload_n 0, 1) := by decide +kernel
theorem dX8_restore_40 : decode cX8_restore 40 = .ok (.getfield 41, 3) := by decide +kernel
theorem dX8_restore_43 : decode cX8_restore 43 = .ok (.iload_n 2, 1) := by decide +kernel
theorem dX8_restore_44 : decode cX8_restore 44 = .ok (.iconst 2, 1) := by decide +kernel
theorem dX8_restore_45 : decode cX8_restore 45 = .ok (.iadd, 1) := by decide +kernel
theorem dX8_restore_46 : decode cX8_restore 46 = .ok (.iaload, 1) := by decide +kernel
theorem dX8_restore_47 : decode cX8_restore 47 = .ok (.aload_n 0, 1) := by decide +kernel
theorem dX8_restore_48 : decode cX8_restore 48 = .ok (.getfield 41, 3) := by decide +kernel
theorem dX8_restore_51 : decode cX8_restore 51 = .ok (.iload_n 2, 1) := by decide +kernel
theorem dX8_restore_52 : decode cX8_restore 52 = .ok (.iconst 3, 1) := by decide +kernel
theorem dX8_restore_53 : decode cX8_restore 53 = .ok (.iadd, 1) := by decide +kernel
theorem dX8_restore_54 : decode cX8_restore 54 = .ok (.iaload, 1) := by decide +kernel
theorem dX8_restore_55 : decode cX8_restore 55 = .ok (.aload_n 0, 1) := by decide +kernel
theorem dX8_restore_56 : decode cX8_restore 56 = .ok (.getfield 41, 3) := by decide +kernel
theorem dX8_restore_59 : decode cX8_restore 59 = .ok (.iload_n 2, 1) := by decide +kernel
theorem dX8_restore_60 : decode cX8_restore 60 = .ok (.iconst 4, 1) := by decide +kernel
theorem dX8_restore_61 : decode cX8_restore 61 = .ok (.iadd, 1) := by decide +kernel
theorem dX8_restore_62 : decode cX8_restore 62 = .ok (.iaload, 1) := by decide +kernel
theorem dX8_restore_63 : decode cX8_restore 63 = .ok (.invokevirtual 140, 3) := by decide +kernel
theorem dX8_restore_66 : decode cX8_restore 66 = .ok (.aload_n 0, 1) := by decide +kernel
theorem dX8_restore_67 : decode cX8_restore 67 = .ok (.aload_n 0, 1) := by decide +kernel
theorem dX8_restore_68 : decode cX8_restore 68 = .ok (.getfield 41, 3) := by decide +kernel
theorem dX8_restore_71 : decode cX8_restore 71 = .ok (.iload_n 2, 1) := by decide +kernel
theorem dX8_restore_72 : decode cX8_restore 72 = .ok (.iconst 5, 1) := by decide +kernel
theorem dX8_restore_73 : decode cX8_restore 73 = .ok (.iadd, 1) := by decide +kernel
theorem dX8_restore_74 : decode cX8_restore 74 = .ok (.iaload, 1) := by decide +kernel
theorem dX8_restore_75 : decode cX8_restore 75 = .ok (.putfield 144, 3) := by decide +kernel
theorem dX8_restore_78 : decode cX8_restore 78 = .ok (.iconst 0, 1) := by decide +kernel
theorem dX8_restore_79 : decode cX8_restore 79 = .ok (.istore_n 3, 1) := by decide +kernel
theorem dX8_restore_80 : decode cX8_restore 80 = .ok (.iload_n 3, 1) := by decide +kernel
theorem dX8_restore_81 : decode cX8_restore 81 = .ok (.bipush 38, 2) := by decide +kernel
theorem dX8_restore_83 : decode cX8_restore 83 = .ok (.if_icmp .ge 26, 3) := by decide +kernel
theorem dX8_restore_86 : decode cX8_restore 86 = .ok (.aload_n 0, 1) := by decide +kernel
theorem dX8_restore_87 : decode cX8_restore 87 = .ok (.getfield 22, 3) := by decide +kernel
theorem dX8_restore_90 : decode cX8_restore 90 = .ok (.iload_n 3, 1) := by decide +kernel
theorem dX8_restore_91 : decode cX8_restore 91 = .ok (.aload_n 0, 1) := by decide +kernel
theorem dX8_restore_92 : decode cX8_restore 92 = .ok (.getfield 41, 3) := by decide +kernel
theorem dX8_restore_95 : decode cX8_restore 95 = .ok (.iload_n 2, 1) := by decide +kernel
theorem dX8_restore_96 : decode cX8_restore 96 = .ok (.bipush 6, 2) := by decide +kernel
theorem dX8_restore_98 : decode cX8_restore 98 = .ok (.iadd, 1) := by decide +kernel
theorem dX8_restore_99 : decode cX8_restore 99 = .ok (.iload_n 3, 1) := by decide +kernel
theorem dX8_restore_100 : decode cX8_restore 100 = .ok (.iadd, 1) := by decide +kernel
theorem dX8_restore_101 : decode cX8_restore 101 = .ok (.iaload, 1) := by decide +kernel
theorem dX8_restore_102 : decode cX8_restore 102 = .ok (.iastore, 1) := by decide +kernel
theorem dX8_restore_103 : decode cX8_restore 103 = .ok (.iinc 3 1, 3) := by decide +kernel
theorem dX8_restore_106 : decode cX8_restore 106 = .ok (.goto (-26), 3) := by decide +kernel
theorem dX8_restore_109 : decode cX8_restore 109 = .ok (.aload_n 0, 1) := by decide +kernel
theorem dX8_restore_110 : decode cX8_restore 110 = .ok (.iconst 0, 1) := by decide +kernel
theorem dX8_restore_111 : decode cX8_restore 111 = .ok (.putfield 147, 3) := by decide +kernel
theorem dX8_restore_114 : decode cX8_restore 114 = .ok (.iconst 1, 1) := by decide +kernel
theorem dX8_restore_115 : decode cX8_restore 115 = .ok (.ireturn, 1) := by decide +kernel
theorem dX8_begins_0 : decode cX8_begins 0 = .ok (.aload_n 0, 1) := by decide +kernel
theorem dX8_begins_1 : decode cX8_begins 1 = .ok (.getfield 276, 3) := by decide +kernel
theorem dX8_begins_4 : decode cX8_begins 4 = .ok (.bipush 16, 2) := by decide +kernel
theorem dX8_begins_6 : decode cX8_begins 6 = .ok (.if_icmp .ge 23, 3) := by decide +kernel
theorem dX8_begins_9 : decode cX8_begins 9 = .ok (.aload_n 0, 1) := by decide +kernel
theorem dX8_begins_10 : decode cX8_begins 10 = .ok (.getfield 44, 3) := by decide +kernel
theorem dX8_begins_13 : decode cX8_begins 13 = .ok (.aload_n 0, 1) := by decide +kernel
theorem dX8_begins_14 : decode cX8_begins 14 = .ok (.getfield 276, 3) := by decide +kernel
theorem dX8_begins_17 : decode cX8_begins 17 = .ok (.iload_n 1, 1) := by decide +kernel
theorem dX8_begins_18 : decode cX8_begins 18 = .ok (.iastore, 1) := by decide +kernel
theorem dX8_begins_19 : decode cX8_begins 19 = .ok (.aload_n 0, 1) := by decide +kernel
theorem dX8_begins_20 : decode cX8_begins 20 = .ok (.dup, 1) := by decide +kernel
theorem dX8_begins_21 : decode cX8_begins 21 = .ok (.getfield 276, 3) := by decide +kernel
theorem dX8_begins_24 : decode cX8_begins 24 = .ok (.iconst 1, 1) := by decide +kernel
theorem dX8_begins_25 : decode cX8_begins 25 = .ok (.iadd, 1) := by decide +kernel
theorem dX8_begins_26 : decode cX8_begins 26 = .ok (.putfield 276, 3) := by decide +kernel
theorem dX8_begins_29 : decode cX8_begins 29 = .ok (.return_, 1) := by decide +kernel
set_option maxRecDepth 20000 in
theorem ggX8_kind_X8_isTap : GoodIn wsX8_kind wsX8_isTap := goodIn_r _ [6, 7, 8, 9, 5, 10, 15, 16, 17, 18, 19, 20, 21, 22, 23, 24, 25, 26, 27, 28, 29, 30, 31, 32, 33, 34, 35, 36, 37, 38, 39, 40, 41, 42, 43, 44, 45, 46, 47] (by decide +kernel) (by decide +kernel)
set_option maxRecDepth 20000 in
theorem gX8_kind_X8_isTap : GoodIn wsX8_kind (wsV RX8 185 RX8 yX8_isTap wsX8_isTap) := goodIn_app (goodIn_of _ (by decide +kernel)) ggX8_kind_X8_isTap
set_option maxRecDepth 20000 in
theorem ggX8_kind_X8_kindAt : GoodIn wsX8_kind wsX8_kindAt := goodIn_r _ [14, 7, 15, 16, 17, 18, 19, 20, 21, 22, 23, 24, 25, 26, 27, 28, 29, 30, 31, 32, 33, 34, 35, 36, 37, 38, 39, 40, 41, 42, 43, 44, 45, 46, 47] (by decide +kernel) (by decide +kernel)
set_option maxRecDepth 20000 in
theorem gX8_kind_X8_kindAt : GoodIn wsX8_kind (wsV RX8 175 RX8 yX8_kindAt wsX8_kindAt) := goodIn_app (goodIn_of _ (by decide +kernel)) ggX8_kind_X8_kindAt
theorem dX8_kind_0 : decode cX8_kind 0 = .ok (.aload_n 0, 1) := by decide +kernel
theorem dX8_kind_1 : decode cX8_kind 1 = .ok (.iload_n 1, 1) := by decide +kernel
theorem dX8_kind_2 : decode cX8_kind 2 = .ok (.invokevirtual 185, 3) := by decide +kernel
theorem dX8_kind_5 : decode cX8_kind 5 = .ok (.ifCond .eq 11, 3) := by decide +kernel
theorem dX8_kind_8 : decode cX8_kind 8 = .ok (.aload_n 0, 1) := by decide +kernel
theorem dX8_kind_9 : decode cX8_kind 9 = .ok (.iload_n 1, 1) := by decide +kernel
theorem dX8_kind_10 : decode cX8_kind 10 = .ok (.invokevirtual 175, 3) := by decide +kernel
theorem dX8_kind_13 : decode cX8_kind 13 = .ok (.goto 5, 3) := by decide +kernel
theorem dX8_kind_16 : decode cX8_kind 16 = .ok (.ldc 64, 2) := by decide +kernel
theorem dX8_kind_18 : decode cX8_kind 18 = .ok (.ireturn, 1) := by decide +kernel
theorem dX8_isKind_0 : decode cX8_isKind 0 = .ok (.iload_n 1, 1) := by decide +kernel
theorem dX8_isKind_1 : decode cX8_isKind 1 = .ok (.ifCond .eq 28, 3) := by decide +kernel
theorem dX8_isKind_4 : decode cX8_isKind 4 = .ok (.iload_n 0, 1) := by decide +kernel
theorem dX8_isKind_5 : decode cX8_isKind 5 = .ok (.iload_n 1, 1) := by decide +kernel
theorem dX8_isKind_6 : decode cX8_isKind 6 = .ok (.if_icmp .eq 23, 3) := by decide +kernel
theorem dX8_isKind_9 : decode cX8_isKind 9 = .ok (.iload_n 1, 1) := by decide +kernel
theorem dX8_isKind_10 : decode cX8_isKind 10 = .ok (.iconst 1, 1) := by decide +kernel
theorem dX8_isKind_11 : decode cX8_isKind 11 = .ok (.if_icmp .ne 8, 3) := by decide +kernel
theorem dX8_isKind_14 : decode cX8_isKind 14 = .ok (.iload_n 0, 1) := by decide +kernel
theorem dX8_isKind_15 : decode cX8_isKind 15 = .ok (.iconst 4, 1) := by decide +kernel
theorem dX8_isKind_16 : decode cX8_isKind 16 = .ok (.if_icmp .lt 13, 3) := by decide +kernel
theorem dX8_isKind_19 : decode cX8_isKind 19 = .ok (.iload_n 1, 1) := by decide +kernel
theorem dX8_isKind_20 : decode cX8_isKind 20 = .ok (.iconst 4, 1) := by decide +kernel
theorem dX8_isKind_21 : decode cX8_isKind 21 = .ok (.if_icmp .ne 12, 3) := by decide +kernel
theorem dX8_isKind_24 : decode cX8_isKind 24 = .ok (.iload_n 0, 1) := by decide +kernel
theorem dX8_isKind_25 : decode cX8_isKind 25 = .ok (.iconst 5, 1) := by decide +kernel
theorem dX8_isKind_26 : decode cX8_isKind 26 = .ok (.if_icmp .ne 7, 3) := by decide +kernel
theorem dX8_isKind_29 : decode cX8_isKind 29 = .ok (.iconst 1, 1) := by decide +kernel
theorem dX8_isKind_30 : decode cX8_isKind 30 = .ok (.goto 4, 3) := by decide +kernel
theorem dX8_isKind_33 : decode cX8_isKind 33 = .ok (.iconst 0, 1) := by decide +kernel
theorem dX8_isKind_34 : decode cX8_isKind 34 = .ok (.ireturn, 1) := by decide +kernel
set_option maxRecDepth 20000 in
theorem ggX8_as_X8_isTap : GoodIn wsX8_as wsX8_isTap := goodIn_r _ [7, 8, 9, 10, 6, 11, 29, 30, 31, 32, 33, 34, 35, 36, 37, 38, 39, 40, 41, 42, 43, 44, 45, 46, 47, 48, 49, 50, 51, 52, 53, 54, 55, 56, 57, 58, 59, 60, 61] (by decide +kernel) (by decide +kernel)
set_option maxRecDepth 20000 in
theorem gX8_as_X8_isTap : GoodIn wsX8_as (wsV RX8 185 RX8 yX8_isTap wsX8_isTap) := goodIn_app (goodIn_of _ (by decide +kernel)) ggX8_as_X8_isTap
set_option maxRecDepth 20000 in
theorem ggX8_as_X8_in : GoodIn wsX8_as wsX8_in := goodIn_r _ [11] (by decide +kernel) (by decide +kernel)
set_option maxRecDepth 20000 in
theorem gX8_as_X8_in : GoodIn wsX8_as (va_wsS RX8 54 yX8_in wsX8_in) := goodIn_app (goodIn_of _ (by decide +kernel)) ggX8_as_X8_in
set_option maxRecDepth 20000 in
theorem ggX8_as_X8_kindAt : GoodIn wsX8_as wsX8_kindAt := goodIn_r _ [15, 8, 29, 30, 31, 32, 33, 34, 35, 36, 37, 38, 39, 40, 41, 42, 43, 44, 45, 46, 47, 48, 49, 50, 51, 52, 53, 54, 55, 56, 57, 58, 59, 60, 61] (by decide +kernel) (by decide +kernel)
set_option maxRecDepth 20000 in
theorem gX8_as_X8_kindAt : GoodIn wsX8_as (wsV RX8 175 RX8 yX8_kindAt wsX8_kindAt) := goodIn_app (goodIn_of _ (by decide +kernel)) ggX8_as_X8_kindAt
set_option maxRecDepth 20000 in
theorem ggX8_as_X8_isKind : GoodIn wsX8_as wsX8_isKind := goodIn_r _ [18] (by decide +kernel) (by decide +kernel)
set_option maxRecDepth 20000 in
theorem gX8_as_X8_isKind : GoodIn wsX8_as (va_wsS RX8 279 yX8_isKind wsX8_isKind) := goodIn_app (goodIn_of _ (by decide +kernel)) ggX8_as_X8_isKind
set_option maxRecDepth 20000 in
theorem ggX8_as_X8_well : GoodIn wsX8_as wsX8_well := goodIn_r _ [22, 23, 29, 30, 31, 32, 33, 34, 35, 36, 37, 38, 39, 40, 41, 42, 43, 44, 45, 46, 47, 48, 49, 50, 51, 52, 53, 54, 55, 56, 57, 58, 59, 60, 61] (by decide +kernel) (by decide +kernel)
set_option maxRecDepth 20000 in
theorem gX8_as_X8_well : GoodIn wsX8_as (wsV RX8 69 RX8 yX8_well wsX8_well) := goodIn_app (goodIn_of _ (by decide +kernel)) ggX8_as_X8_well
set_option maxRecDepth 20000 in
theorem ggX8_as_X8_finds : GoodIn wsX8_as wsX8_finds := goodIn_r _ [27, 23, 28, 29, 30, 31, 32, 33, 34, 35, 36, 37, 38, 39, 40, 41, 42, 43, 44, 45, 46, 47, 48, 49, 50, 51, 52, 53, 54, 55, 56, 57, 58, 59, 60, 61] (by decide +kernel) (by decide +kernel)
set_option maxRecDepth 20000 in
theorem gX8_as_X8_finds : GoodIn wsX8_as (wsV RX8 65 RX8 yX8_finds wsX8_finds) := goodIn_app (goodIn_of _ (by decide +kernel)) ggX8_as_X8_finds
theorem dX8_as_0 : decode cX8_as 0 = .ok (.aload_n 0, 1) := by decide +kernel
theorem dX8_as_1 : decode cX8_as 1 = .ok (.iload_n 1, 1) := by decide +kernel
theorem dX8_as_2 : decode cX8_as 2 = .ok (.invokevirtual 185, 3) := by decide +kernel
theorem dX8_as_5 : decode cX8_as 5 = .ok (.ifCond .eq 15, 3) := by decide +kernel
theorem dX8_as_8 : decode cX8_as 8 = .ok (.iload_n 2, 1) := by decide +kernel
theorem dX8_as_9 : decode cX8_as 9 = .ok (.i2l, 1) := by decide +kernel
theorem dX8_as_10 : decode cX8_as 10 = .ok (.lconst 0, 1) := by decide +kernel
theorem dX8_as_11 : decode cX8_as 11 = .ok (.ldc2_w 198, 3) := by decide +kernel
theorem dX8_as_14 : decode cX8_as 14 = .ok (.invokestatic 54, 3) := by decide +kernel
theorem dX8_as_17 : decode cX8_as 17 = .ok (.ifCond .ne 6, 3) := by decide +kernel
theorem dX8_as_20 : decode cX8_as 20 = .ok (.ldc 64, 2) := by decide +kernel
theorem dX8_as_22 : decode cX8_as 22 = .ok (.ireturn, 1) := by decide +kernel
theorem dX8_as_23 : decode cX8_as 23 = .ok (.aload_n 0, 1) := by decide +kernel
theorem dX8_as_24 : decode cX8_as 24 = .ok (.iload_n 1, 1) := by decide +kernel
theorem dX8_as_25 : decode cX8_as 25 = .ok (.invokevirtual 175, 3) := by decide +kernel
theorem dX8_as_28 : decode cX8_as 28 = .ok (.iload_n 2, 1) := by decide +kernel
theorem dX8_as_29 : decode cX8_as 29 = .ok (.invokestatic 279, 3) := by decide +kernel
theorem dX8_as_32 : decode cX8_as 32 = .ok (.ifCond .eq 11, 3) := by decide +kernel
theorem dX8_as_35 : decode cX8_as 35 = .ok (.aload_n 0, 1) := by decide +kernel
theorem dX8_as_36 : decode cX8_as 36 = .ok (.iload_n 1, 1) := by decide +kernel
theorem dX8_as_37 : decode cX8_as 37 = .ok (.invokevirtual 69, 3) := by decide +kernel
theorem dX8_as_40 : decode cX8_as 40 = .ok (.goto 8, 3) := by decide +kernel
theorem dX8_as_43 : decode cX8_as 43 = .ok (.aload_n 0, 1) := by decide +kernel
theorem dX8_as_44 : decode cX8_as 44 = .ok (.iconst 3, 1) := by decide +kernel
theorem dX8_as_45 : decode cX8_as 45 = .ok (.invokevirtual 65, 3) := by decide +kernel
theorem dX8_as_48 : decode cX8_as 48 = .ok (.ireturn, 1) := by decide +kernel
set_option maxRecDepth 20000 in
theorem ggX8_lent_X8_begins : GoodIn wsX8_lent wsX8_begins := goodIn_r _ [5, 6, 7, 13, 14, 15, 16, 17, 18, 19, 20, 21, 22, 23, 24, 25, 26, 27, 28, 29, 30, 31, 32, 33, 34, 35, 36, 37, 38, 39, 40, 41, 42, 43, 44, 45] (by decide +kernel) (by decide +kernel)
set_option maxRecDepth 20000 in
theorem gX8_lent_X8_begins : GoodIn wsX8_lent (wsV RX8 283 RX8 yX8_begins wsX8_begins) := goodIn_app (goodIn_of _ (by decide +kernel)) ggX8_lent_X8_begins
set_option maxRecDepth 20000 in
theorem ggX8_lent_X8_forceAt : GoodIn wsX8_lent wsX8_forceAt := goodIn_r _ [11, 12, 13, 14, 15, 16, 17, 18, 19, 20, 21, 22, 23, 24, 25, 26, 27, 28, 29, 30, 31, 32, 33, 34, 35, 36, 37, 38, 39, 40, 41, 42, 43, 44, 45] (by decide +kernel) (by decide +kernel)
set_option maxRecDepth 20000 in
theorem gX8_lent_X8_forceAt : GoodIn wsX8_lent (wsV RX8 178 RX8 yX8_forceAt wsX8_forceAt) := goodIn_app (goodIn_of _ (by decide +kernel)) ggX8_lent_X8_forceAt
theorem dX8_lent_0 : decode cX8_lent 0 = .ok (.aload_n 0, 1) := by decide +kernel
theorem dX8_lent_1 : decode cX8_lent 1 = .ok (.bipush 10, 2) := by decide +kernel
theorem dX8_lent_3 : decode cX8_lent 3 = .ok (.invokevirtual 283, 3) := by decide +kernel
theorem dX8_lent_6 : decode cX8_lent 6 = .ok (.aload_n 0, 1) := by decide +kernel
theorem dX8_lent_7 : decode cX8_lent 7 = .ok (.iload_n 1, 1) := by decide +kernel
theorem dX8_lent_8 : decode cX8_lent 8 = .ok (.invokevirtual 178, 3) := by decide +kernel
theorem dX8_lent_11 : decode cX8_lent 11 = .ok (.ireturn, 1) := by decide +kernel
set_option maxRecDepth 20000 in
theorem ggX8_marks_X8_kindAt : GoodIn wsX8_marks wsX8_kindAt := goodIn_r _ [6, 7, 26, 27, 28, 29, 30, 31, 32, 33, 34, 35, 36, 37, 38, 39, 40, 41, 42, 43, 44, 45, 46, 47, 48, 49, 50, 51, 52, 53, 54, 55, 56, 57, 58] (by decide +kernel) (by decide +kernel)
set_option maxRecDepth 20000 in
theorem gX8_marks_X8_kindAt : GoodIn wsX8_marks (wsV RX8 175 RX8 yX8_kindAt wsX8_kindAt) := goodIn_app (goodIn_of _ (by decide +kernel)) ggX8_marks_X8_kindAt
set_option maxRecDepth 20000 in
theorem ggX8_marks_X8_begins : GoodIn wsX8_marks wsX8_begins := goodIn_r _ [11, 12, 13, 26, 27, 28, 29, 30, 31, 32, 33, 34, 35, 36, 37, 38, 39, 40, 41, 42, 43, 44, 45, 46, 47, 48, 49, 50, 51, 52, 53, 54, 55, 56, 57, 58] (by decide +kernel) (by decide +kernel)
set_option maxRecDepth 20000 in
theorem gX8_marks_X8_begins : GoodIn wsX8_marks (wsV RX8 283 RX8 yX8_begins wsX8_begins) := goodIn_app (goodIn_of _ (by decide +kernel)) ggX8_marks_X8_begins
set_option maxRecDepth 20000 in
theorem ggX8_marks_X8_brakes : GoodIn wsX8_marks wsX8_brakes := goodIn_r _ [17, 2, 3, 4, 5, 6, 7, 8, 9, 10, 11, 12, 13, 18, 19, 20, 21, 22, 23, 24, 25, 26, 27, 28, 29, 30, 31, 32, 33, 34, 35, 36, 37, 38, 39, 40, 41, 42, 43, 44, 45, 46, 47, 48, 49, 50, 51, 52, 53, 54, 55, 56, 57, 58] (by decide +kernel) (by decide +kernel)
set_option maxRecDepth 20000 in
theorem gX8_marks_X8_brakes : GoodIn wsX8_marks (wsV RX8 286 RX8 yX8_brakes wsX8_brakes) := goodIn_app (goodIn_of _ (by decide +kernel)) ggX8_marks_X8_brakes
theorem dX8_marks_0 : decode cX8_marks 0 = .ok (.aload_n 0, 1) := by decide +kernel
theorem dX8_marks_1 : decode cX8_marks 1 = .ok (.iload_n 1, 1) := by decide +kernel
theorem dX8_marks_2 : decode cX8_marks 2 = .ok (.invokevirtual 175, 3) := by decide +kernel
theorem dX8_marks_5 : decode cX8_marks 5 = .ok (.istore_n 2, 1) := by decide +kernel
theorem dX8_marks_6 : decode cX8_marks 6 = .ok (.iload_n 2, 1) := by decide +kernel
theorem dX8_marks_7 : decode cX8_marks 7 = .ok (.iconst 3, 1) := by decide +kernel
theorem dX8_marks_8 : decode cX8_marks 8 = .ok (.if_icmp .le 23, 3) := by decide +kernel
theorem dX8_marks_11 : decode cX8_marks 11 = .ok (.aload_n 0, 1) := by decide +kernel
theorem dX8_marks_12 : decode cX8_marks 12 = .ok (.bipush 23, 2) := by decide +kernel
theorem dX8_marks_14 : decode cX8_marks 14 = .ok (.invokevirtual 283, 3) := by decide +kernel
theorem dX8_marks_17 : decode cX8_marks 17 = .ok (.aload_n 0, 1) := by decide +kernel
theorem dX8_marks_18 : decode cX8_marks 18 = .ok (.bipush 20, 2) := by decide +kernel
theorem dX8_marks_20 : decode cX8_marks 20 = .ok (.invokevirtual 283, 3) := by decide +kernel
theorem dX8_marks_23 : decode cX8_marks 23 = .ok (.iload_n 1, 1) := by decide +kernel
theorem dX8_marks_24 : decode cX8_marks 24 = .ok (.aload_n 0, 1) := by decide +kernel
theorem dX8_marks_25 : decode cX8_marks 25 = .ok (.iload_n 1, 1) := by decide +kernel
theorem dX8_marks_26 : decode cX8_marks 26 = .ok (.invokevirtual 286, 3) := by decide +kernel
theorem dX8_marks_29 : decode cX8_marks 29 = .ok (.isub, 1) := by decide +kernel
theorem dX8_marks_30 : decode cX8_marks 30 = .ok (.ireturn, 1) := by decide +kernel
theorem dX8_marks_31 : decode cX8_marks 31 = .ok (.iload_n 2, 1) := by decide +kernel
theorem dX8_marks_32 : decode cX8_marks 32 = .ok (.iconst 1, 1) := by decide +kernel
theorem dX8_marks_33 : decode cX8_marks 33 = .ok (.if_icmp .le 19, 3) := by decide +kernel
theorem dX8_marks_36 : decode cX8_marks 36 = .ok (.aload_n 0, 1) := by decide +kernel
theorem dX8_marks_37 : decode cX8_marks 37 = .ok (.iload_n 2, 1) := by decide +kernel
theorem dX8_marks_38 : decode cX8_marks 38 = .ok (.iconst 2, 1) := by decide +kernel
theorem dX8_marks_39 : decode cX8_marks 39 = .ok (.if_icmp .ne 8, 3) := by decide +kernel
theorem dX8_marks_42 : decode cX8_marks 42 = .ok (.bipush 24, 2) := by decide +kernel
theorem dX8_marks_44 : decode cX8_marks 44 = .ok (.goto 5, 3) := by decide +kernel
theorem dX8_marks_47 : decode cX8_marks 47 = .ok (.bipush 22, 2) := by decide +kernel
theorem dX8_marks_49 : decode cX8_marks 49 = .ok (.invokevirtual 283, 3) := by decide +kernel
theorem dX8_marks_52 : decode cX8_marks 52 = .ok (.aload_n 0, 1) := by decide +kernel
theorem dX8_marks_53 : decode cX8_marks 53 = .ok (.bipush 21, 2) := by decide +kernel
theorem dX8_marks_55 : decode cX8_marks 55 = .ok (.invokevirtual 283, 3) := by decide +kernel
theorem dX8_marks_58 : decode cX8_marks 58 = .ok (.aload_n 0, 1) := by decide +kernel
theorem dX8_marks_59 : decode cX8_marks 59 = .ok (.bipush 20, 2) := by decide +kernel
theorem dX8_marks_61 : decode cX8_marks 61 = .ok (.invokevirtual 283, 3) := by decide +kernel
theorem dX8_marks_64 : decode cX8_marks 64 = .ok (.iload_n 1, 1) := by decide +kernel
theorem dX8_marks_65 : decode cX8_marks 65 = .ok (.aload_n 0, 1) := by decide +kernel
theorem dX8_marks_66 : decode cX8_marks 66 = .ok (.getfield 153, 3) := by decide +kernel
theorem dX8_marks_69 : decode cX8_marks 69 = .ok (.iadd, 1) := by decide +kernel
theorem dX8_marks_70 : decode cX8_marks 70 = .ok (.istore_n 3, 1) := by decide +kernel
theorem dX8_marks_71 : decode cX8_marks 71 = .ok (.iload_n 2, 1) := by decide +kernel
theorem dX8_marks_72 : decode cX8_marks 72 = .ok (.iconst 2, 1) := by decide +kernel
theorem dX8_marks_73 : decode cX8_marks 73 = .ok (.if_icmp .ne 9, 3) := by decide +kernel
theorem dX8_marks_76 : decode cX8_marks 76 = .ok (.iconst 2, 1) := by decide +kernel
theorem dX8_marks_77 : decode cX8_marks 77 = .ok (.iload_n 3, 1) := by decide +kernel
theorem dX8_marks_78 : decode cX8_marks 78 = .ok (.imul, 1) := by decide +kernel
theorem dX8_marks_79 : decode cX8_marks 79 = .ok (.goto 17, 3) := by decide +kernel
theorem dX8_marks_82 : decode cX8_marks 82 = .ok (.iload_n 2, 1) := by decide +kernel
theorem dX8_marks_83 : decode cX8_marks 83 = .ok (.iconst 3, 1) := by decide +kernel
theorem dX8_marks_84 : decode cX8_marks 84 = .ok (.if_icmp .ne 11, 3) := by decide +kernel
theorem dX8_marks_87 : decode cX8_marks 87 = .ok (.iload_n 3, 1) := by decide +kernel
theorem dX8_marks_88 : decode cX8_marks 88 = .ok (.sipush 1000, 3) := by decide +kernel
theorem dX8_marks_91 : decode cX8_marks 91 = .ok (.isub, 1) := by decide +kernel
theorem dX8_marks_92 : decode cX8_marks 92 = .ok (.goto 4, 3) := by decide +kernel
theorem dX8_marks_95 : decode cX8_marks 95 = .ok (.iload_n 3, 1) := by decide +kernel
theorem dX8_marks_96 : decode cX8_marks 96 = .ok (.ireturn, 1) := by decide +kernel
set_option maxRecDepth 20000 in
theorem ggX8_brakes_X8_kindAt : GoodIn wsX8_brakes wsX8_kindAt := goodIn_r _ [5, 6, 21, 22, 23, 24, 25, 26, 27, 28, 29, 30, 31, 32, 33, 34, 35, 36, 37, 38, 39, 40, 41, 42, 43, 44, 45, 46, 47, 48, 49, 50, 51, 52, 53] (by decide +kernel) (by decide +kernel)
set_option maxRecDepth 20000 in
theorem gX8_brakes_X8_kindAt : GoodIn wsX8_brakes (wsV RX8 175 RX8 yX8_kindAt wsX8_kindAt) := goodIn_app (goodIn_of _ (by decide +kernel)) ggX8_brakes_X8_kindAt
set_option maxRecDepth 20000 in
theorem ggX8_brakes_X8_begins : GoodIn wsX8_brakes wsX8_begins := goodIn_r _ [10, 11, 12, 21, 22, 23, 24, 25, 26, 27, 28, 29, 30, 31, 32, 33, 34, 35, 36, 37, 38, 39, 40, 41, 42, 43, 44, 45, 46, 47, 48, 49, 50, 51, 52, 53] (by decide +kernel) (by decide +kernel)
set_option maxRecDepth 20000 in
theorem gX8_brakes_X8_begins : GoodIn wsX8_brakes (wsV RX8 283 RX8 yX8_begins wsX8_begins) := goodIn_app (goodIn_of _ (by decide +kernel)) ggX8_brakes_X8_begins
set_option maxRecDepth 20000 in
theorem ggX8_brakes_X8_lent : GoodIn wsX8_brakes wsX8_lent := goodIn_r _ [16, 7, 8, 9, 4, 10, 11, 12, 17, 18, 19, 20, 6, 21, 22, 23, 24, 25, 26, 27, 28, 29, 30, 31, 32, 33, 34, 35, 36, 37, 38, 39, 40, 41, 42, 43, 44, 45, 46, 47, 48, 49, 50, 51, 52, 53] (by decide +kernel) (by decide +kernel)
set_option maxRecDepth 20000 in
theorem gX8_brakes_X8_lent : GoodIn wsX8_brakes (wsV RX8 289 RX8 yX8_lent wsX8_lent) := goodIn_app (goodIn_of _ (by decide +kernel)) ggX8_brakes_X8_lent
theorem dX8_brakes_0 : decode cX8_brakes 0 = .ok (.aload_n 0, 1) := by decide +kernel
theorem dX8_brakes_1 : decode cX8_brakes 1 = .ok (.iload_n 1, 1) := by decide +kernel
theorem dX8_brakes_2 : decode cX8_brakes 2 = .ok (.invokevirtual 175, 3) := by decide +kernel
theorem dX8_brakes_5 : decode cX8_brakes 5 = .ok (.iconst 5, 1) := by decide +kernel
theorem dX8_brakes_6 : decode cX8_brakes 6 = .ok (.if_icmp .ne 7, 3) := by decide +kernel
theorem dX8_brakes_9 : decode cX8_brakes 9 = .ok (.iconst 1, 1) := by decide +kernel
theorem dX8_brakes_10 : decode cX8_brakes 10 = .ok (.goto 4, 3) := by decide +kernel
theorem dX8_brakes_13 : decode cX8_brakes 13 = .ok (.iconst 0, 1) := by decide +kernel
theorem dX8_brakes_14 : decode cX8_brakes 14 = .ok (.istore_n 2, 1) := by decide +kernel
theorem dX8_brakes_15 : decode cX8_brakes 15 = .ok (.iload_n 2, 1) := by decide +kernel
theorem dX8_brakes_16 : decode cX8_brakes 16 = .ok (.ifCond .eq 9, 3) := by decide +kernel
theorem dX8_brakes_19 : decode cX8_brakes 19 = .ok (.aload_n 0, 1) := by decide +kernel
theorem dX8_brakes_20 : decode cX8_brakes 20 = .ok (.bipush 14, 2) := by decide +kernel
theorem dX8_brakes_22 : decode cX8_brakes 22 = .ok (.invokevirtual 283, 3) := by decide +kernel
theorem dX8_brakes_25 : decode cX8_brakes 25 = .ok (.aload_n 0, 1) := by decide +kernel
theorem dX8_brakes_26 : decode cX8_brakes 26 = .ok (.bipush 13, 2) := by decide +kernel
theorem dX8_brakes_28 : decode cX8_brakes 28 = .ok (.invokevirtual 283, 3) := by decide +kernel
theorem dX8_brakes_31 : decode cX8_brakes 31 = .ok (.aload_n 0, 1) := by decide +kernel
theorem dX8_brakes_32 : decode cX8_brakes 32 = .ok (.iload_n 1, 1) := by decide +kernel
theorem dX8_brakes_33 : decode cX8_brakes 33 = .ok (.invokevirtual 289, 3) := by decide +kernel
theorem dX8_brakes_36 : decode cX8_brakes 36 = .ok (.bipush 100, 2) := by decide +kernel
theorem dX8_brakes_38 : decode cX8_brakes 38 = .ok (.isub, 1) := by decide +kernel
theorem dX8_brakes_39 : decode cX8_brakes 39 = .ok (.istore_n 3, 1) := by decide +kernel
theorem dX8_brakes_40 : decode cX8_brakes 40 = .ok (.iload_n 2, 1) := by decide +kernel
theorem dX8_brakes_41 : decode cX8_brakes 41 = .ok (.ifCond .eq 9, 3) := by decide +kernel
theorem dX8_brakes_44 : decode cX8_brakes 44 = .ok (.iconst 2, 1) := by decide +kernel
theorem dX8_brakes_45 : decode cX8_brakes 45 = .ok (.iload_n 3, 1) := by decide +kernel
theorem dX8_brakes_46 : decode cX8_brakes 46 = .ok (.imul, 1) := by decide +kernel
theorem dX8_brakes_47 : decode cX8_brakes 47 = .ok (.goto 4, 3) := by decide +kernel
theorem dX8_brakes_50 : decode cX8_brakes 50 = .ok (.iload_n 3, 1) := by decide +kernel
theorem dX8_brakes_51 : decode cX8_brakes 51 = .ok (.ireturn, 1) := by decide +kernel
set_option maxRecDepth 20000 in
theorem ggX8_sizeOf_X8_kindAt : GoodIn wsX8_sizeOf wsX8_kindAt := goodIn_r _ [5, 6, 30, 31, 32, 33, 34, 35, 36, 37, 38, 39, 40, 41, 42, 43, 44, 45, 46, 47, 48, 49, 50, 51, 52, 53, 54, 55, 56, 57, 58, 59, 60, 61, 62] (by decide +kernel) (by decide +kernel)
set_option maxRecDepth 20000 in
theorem gX8_sizeOf_X8_kindAt : GoodIn wsX8_sizeOf (wsV RX8 175 RX8 yX8_kindAt wsX8_kindAt) := goodIn_app (goodIn_of _ (by decide +kernel)) ggX8_sizeOf_X8_kindAt
set_option maxRecDepth 20000 in
theorem ggX8_sizeOf_X8_brakes : GoodIn wsX8_sizeOf wsX8_brakes := goodIn_r _ [10, 1, 2, 3, 4, 5, 6, 11, 12, 13, 14, 15, 16, 17, 18, 19, 20, 21, 22, 23, 24, 30, 31, 32, 33, 34, 35, 36, 37, 38, 39, 40, 41, 42, 43, 44, 45, 46, 47, 48, 49, 50, 51, 52, 53, 54, 55, 56, 57, 58, 59, 60, 61, 62] (by decide +kernel) (by decide +kernel)
set_option maxRecDepth 20000 in
theorem gX8_sizeOf_X8_brakes : GoodIn wsX8_sizeOf (wsV RX8 286 RX8 yX8_brakes wsX8_brakes) := goodIn_app (goodIn_of _ (by decide +kernel)) ggX8_sizeOf_X8_brakes
set_option maxRecDepth 20000 in
theorem ggX8_sizeOf_X8_begins : GoodIn wsX8_sizeOf wsX8_begins := goodIn_r _ [14, 15, 16, 30, 31, 32, 33, 34, 35, 36, 37, 38, 39, 40, 41, 42, 43, 44, 45, 46, 47, 48, 49, 50, 51, 52, 53, 54, 55, 56, 57, 58, 59, 60, 61, 62] (by decide +kernel) (by decide +kernel)
set_option maxRecDepth 20000 in
theorem gX8_sizeOf_X8_begins : GoodIn wsX8_sizeOf (wsV RX8 283 RX8 yX8_begins wsX8_begins) := goodIn_app (goodIn_of _ (by decide +kernel)) ggX8_sizeOf_X8_begins
set_option maxRecDepth 20000 in
theorem ggX8_sizeOf_X8_lent : GoodIn wsX8_sizeOf wsX8_lent := goodIn_r _ [20, 11, 12, 13, 4, 14, 15, 16, 21, 22, 23, 24, 6, 30, 31, 32, 33, 34, 35, 36, 37, 38, 39, 40, 41, 42, 43, 44, 45, 46, 47, 48, 49, 50, 51, 52, 53, 54, 55, 56, 57, 58, 59, 60, 61, 62] (by decide +kernel) (by decide +kernel)
set_option maxRecDepth 20000 in
theorem gX8_sizeOf_X8_lent : GoodIn wsX8_sizeOf (wsV RX8 289 RX8 yX8_lent wsX8_lent) := goodIn_app (goodIn_of _ (by decide +kernel)) ggX8_sizeOf_X8_lent
set_option maxRecDepth 20000 in
theorem ggX8_sizeOf_X8_marks : GoodIn wsX8_sizeOf wsX8_marks := goodIn_r _ [28, 29, 1, 2, 3, 4, 5, 6, 11, 12, 13, 14, 15, 16, 7, 8, 9, 10, 17, 18, 19, 20, 21, 22, 23, 24, 30, 31, 32, 33, 34, 35, 36, 37, 38, 39, 40, 41, 42, 43, 44, 45, 46, 47, 48, 49, 50, 51, 52, 53, 54, 55, 56, 57, 58, 59, 60, 61, 62] (by decide +kernel) (by decide +kernel)
set_option maxRecDepth 20000 in
theorem gX8_sizeOf_X8_marks : GoodIn wsX8_sizeOf (wsV RX8 292 RX8 yX8_marks wsX8_marks) := goodIn_app (goodIn_of _ (by decide +kernel)) ggX8_sizeOf_X8_marks
theorem dX8_sizeOf_0 : decode cX8_sizeOf 0 = .ok (.aload_n 0, 1) := by decide +kernel
theorem dX8_sizeOf_1 : decode cX8_sizeOf 1 = .ok (.iload_n 1, 1) := by decide +kernel
theorem dX8_sizeOf_2 : decode cX8_sizeOf 2 = .ok (.invokevirtual 175, 3) := by decide +kernel
theorem dX8_sizeOf_5 : decode cX8_sizeOf 5 = .ok (.istore_n 2, 1) := by decide +kernel
theorem dX8_sizeOf_6 : decode cX8_sizeOf 6 = .ok (.iload_n 2, 1) := by decide +kernel
theorem dX8_sizeOf_7 : decode cX8_sizeOf 7 = .ok (.iconst 3, 1) := by decide +kernel
theorem dX8_sizeOf_8 : decode cX8_sizeOf 8 = .ok (.if_icmp .le 9, 3) := by decide +kernel
theorem dX8_sizeOf_11 : decode cX8_sizeOf 11 = .ok (.aload_n 0, 1) := by decide +kernel
theorem dX8_sizeOf_12 : decode cX8_sizeOf 12 = .ok (.iload_n 1, 1) := by decide +kernel
theorem dX8_sizeOf_13 : decode cX8_sizeOf 13 = .ok (.invokevirtual 286, 3) := by decide +kernel
theorem dX8_sizeOf_16 : decode cX8_sizeOf 16 = .ok (.ireturn, 1) := by decide +kernel
theorem dX8_sizeOf_17 : decode cX8_sizeOf 17 = .ok (.iload_n 2, 1) := by decide +kernel
theorem dX8_sizeOf_18 : decode cX8_sizeOf 18 = .ok (.iconst 2, 1) := by decide +kernel
theorem dX8_sizeOf_19 : decode cX8_sizeOf 19 = .ok (.if_icmp .ne 9, 3) := by decide +kernel
theorem dX8_sizeOf_22 : decode cX8_sizeOf 22 = .ok (.aload_n 0, 1) := by decide +kernel
theorem dX8_sizeOf_23 : decode cX8_sizeOf 23 = .ok (.bipush 12, 2) := by decide +kernel
theorem dX8_sizeOf_25 : decode cX8_sizeOf 25 = .ok (.invokevirtual 283, 3) := by decide +kernel
theorem dX8_sizeOf_28 : decode cX8_sizeOf 28 = .ok (.aload_n 0, 1) := by decide +kernel
theorem dX8_sizeOf_29 : decode cX8_sizeOf 29 = .ok (.bipush 11, 2) := by decide +kernel
theorem dX8_sizeOf_31 : decode cX8_sizeOf 31 = .ok (.invokevirtual 283, 3) := by decide +kernel
theorem dX8_sizeOf_34 : decode cX8_sizeOf 34 = .ok (.aload_n 0, 1) := by decide +kernel
theorem dX8_sizeOf_35 : decode cX8_sizeOf 35 = .ok (.iload_n 1, 1) := by decide +kernel
theorem dX8_sizeOf_36 : decode cX8_sizeOf 36 = .ok (.invokevirtual 289, 3) := by decide +kernel
theorem dX8_sizeOf_39 : decode cX8_sizeOf 39 = .ok (.istore_n 3, 1) := by decide +kernel
theorem dX8_sizeOf_40 : decode cX8_sizeOf 40 = .ok (.iload_n 3, 1) := by decide +kernel
theorem dX8_sizeOf_41 : decode cX8_sizeOf 41 = .ok (.aload_n 0, 1) := by decide +kernel
theorem dX8_sizeOf_42 : decode cX8_sizeOf 42 = .ok (.iload_n 1, 1) := by decide +kernel
theorem dX8_sizeOf_43 : decode cX8_sizeOf 43 = .ok (.invokevirtual 292, 3) := by decide +kernel
theorem dX8_sizeOf_46 : decode cX8_sizeOf 46 = .ok (.iadd, 1) := by decide +kernel
theorem dX8_sizeOf_47 : decode cX8_sizeOf 47 = .ok (.istore_n 3, 1) := by decide +kernel
theorem dX8_sizeOf_48 : decode cX8_sizeOf 48 = .ok (.iload_n 2, 1) := by decide +kernel
theorem dX8_sizeOf_49 : decode cX8_sizeOf 49 = .ok (.iconst 2, 1) := by decide +kernel
theorem dX8_sizeOf_50 : decode cX8_sizeOf 50 = .ok (.if_icmp .ne 8, 3) := by decide +kernel
theorem dX8_sizeOf_53 : decode cX8_sizeOf 53 = .ok (.iload_n 3, 1) := by decide +kernel
theorem dX8_sizeOf_54 : decode cX8_sizeOf 54 = .ok (.ineg, 1) := by decide +kernel
theorem dX8_sizeOf_55 : decode cX8_sizeOf 55 = .ok (.goto 4, 3) := by decide +kernel
theorem dX8_sizeOf_58 : decode cX8_sizeOf 58 = .ok (.iload_n 3, 1) := by decide +kernel
theorem dX8_sizeOf_59 : decode cX8_sizeOf 59 = .ok (.ireturn, 1) := by decide +kernel
set_option maxRecDepth 20000 in
theorem ggX8_ask_X8_isTap : GoodIn wsX8_ask wsX8_isTap := goodIn_r _ [7, 8, 9, 10, 6, 11, 42, 43, 44, 45, 46, 47, 48, 49, 50, 51, 52, 53, 54, 55, 56, 57, 58, 59, 60, 61, 62, 63, 64, 65, 66, 67, 68, 69, 70, 71, 72, 73, 74] (by decide +kernel) (by decide +kernel)
set_option maxRecDepth 20000 in
theorem gX8_ask_X8_isTap : GoodIn wsX8_ask (wsV RX8 185 RX8 yX8_isTap wsX8_isTap) := goodIn_app (goodIn_of _ (by decide +kernel)) ggX8_ask_X8_isTap
set_option maxRecDepth 20000 in
theorem ggX8_ask_X8_in : GoodIn wsX8_ask wsX8_in := goodIn_r _ [11] (by decide +kernel) (by decide +kernel)
set_option maxRecDepth 20000 in
theorem gX8_ask_X8_in : GoodIn wsX8_ask (va_wsS RX8 54 yX8_in wsX8_in) := goodIn_app (goodIn_of _ (by decide +kernel)) ggX8_ask_X8_in
set_option maxRecDepth 20000 in
theorem ggX8_ask_X8_sizeOf : GoodIn wsX8_ask wsX8_sizeOf := goodIn_r _ [15, 16, 17, 18, 6, 19, 8, 20, 21, 22, 23, 24, 25, 26, 27, 2, 28, 29, 30, 31, 32, 33, 34, 35, 36, 37, 38, 39, 40, 41, 42, 43, 44, 45, 46, 47, 48, 49, 50, 51, 52, 53, 54, 55, 56, 57, 58, 59, 60, 61, 62, 63, 64, 65, 66, 67, 68, 69, 70, 71, 72, 73, 74] (by decide +kernel) (by decide +kernel)
set_option maxRecDepth 20000 in
theorem gX8_ask_X8_sizeOf : GoodIn wsX8_ask (wsV RX8 295 RX8 yX8_sizeOf wsX8_sizeOf) := goodIn_app (goodIn_of _ (by decide +kernel)) ggX8_ask_X8_sizeOf
set_option maxRecDepth 20000 in
theorem ggX8_ask_X8_marks : GoodIn wsX8_ask wsX8_marks := goodIn_r _ [40, 41, 16, 17, 18, 6, 19, 8, 24, 25, 26, 27, 2, 28, 20, 21, 22, 23, 29, 30, 31, 32, 33, 34, 35, 36, 42, 43, 44, 45, 46, 47, 48, 49, 50, 51, 52, 53, 54, 55, 56, 57, 58, 59, 60, 61, 62, 63, 64, 65, 66, 67, 68, 69, 70, 71, 72, 73, 74] (by decide +kernel) (by decide +kernel)
set_option maxRecDepth 20000 in
theorem gX8_ask_X8_marks : GoodIn wsX8_ask (wsV RX8 292 RX8 yX8_marks wsX8_marks) := goodIn_app (goodIn_of _ (by decide +kernel)) ggX8_ask_X8_marks
theorem dX8_ask_0 : decode cX8_ask 0 = .ok (.aload_n 0, 1) := by decide +kernel
theorem dX8_ask_1 : decode cX8_ask 1 = .ok (.iload_n 1, 1) := by decide +kernel
theorem dX8_ask_2 : decode cX8_ask 2 = .ok (.invokevirtual 185, 3) := by decide +kernel
theorem dX8_ask_5 : decode cX8_ask 5 = .ok (.ifCond .eq 13, 3) := by decide +kernel
theorem dX8_ask_8 : decode cX8_ask 8 = .ok (.iload_n 2, 1) := by decide +kernel
theorem dX8_ask_9 : decode cX8_ask 9 = .ok (.i2l, 1) := by decide +kernel
theorem dX8_ask_10 : decode cX8_ask 10 = .ok (.lconst 0, 1) := by decide +kernel
theorem dX8_ask_11 : decode cX8_ask 11 = .ok (.lconst 1, 1) := by decide +kernel
theorem dX8_ask_12 : decode cX8_ask 12 = .ok (.invokestatic 54, 3) := by decide +kernel
theorem dX8_ask_15 : decode cX8_ask 15 = .ok (.ifCond .ne 6, 3) := by decide +kernel
theorem dX8_ask_18 : decode cX8_ask 18 = .ok (.ldc 64, 2) := by decide +kernel
theorem dX8_ask_20 : decode cX8_ask 20 = .ok (.ireturn, 1) := by decide +kernel
theorem dX8_ask_21 : decode cX8_ask 21 = .ok (.aload_n 0, 1) := by decide +kernel
theorem dX8_ask_22 : decode cX8_ask 22 = .ok (.iconst 0, 1) := by decide +kernel
theorem dX8_ask_23 : decode cX8_ask 23 = .ok (.putfield 276, 3) := by decide +kernel
theorem dX8_ask_26 : decode cX8_ask 26 = .ok (.iload_n 2, 1) := by decide +kernel
theorem dX8_ask_27 : decode cX8_ask 27 = .ok (.ifCond .ne 11, 3) := by decide +kernel
theorem dX8_ask_30 : decode cX8_ask 30 = .ok (.aload_n 0, 1) := by decide +kernel
theorem dX8_ask_31 : decode cX8_ask 31 = .ok (.iload_n 1, 1) := by decide +kernel
theorem dX8_ask_32 : decode cX8_ask 32 = .ok (.invokevirtual 295, 3) := by decide +kernel
theorem dX8_ask_35 : decode cX8_ask 35 = .ok (.goto 8, 3) := by decide +kernel
theorem dX8_ask_38 : decode cX8_ask 38 = .ok (.aload_n 0, 1) := by decide +kernel
theorem dX8_ask_39 : decode cX8_ask 39 = .ok (.iload_n 1, 1) := by decide +kernel
theorem dX8_ask_40 : decode cX8_ask 40 = .ok (.invokevirtual 292, 3) := by decide +kernel
theorem dX8_ask_43 : decode cX8_ask 43 = .ok (.ireturn, 1) := by decide +kernel
set_option maxRecDepth 20000 in
theorem ggX8_trace_X8_in : GoodIn wsX8_trace wsX8_in := goodIn_r _ [7] (by decide +kernel) (by decide +kernel)
set_option maxRecDepth 20000 in
theorem gX8_trace_X8_in : GoodIn wsX8_trace (va_wsS RX8 54 yX8_in wsX8_in) := goodIn_app (goodIn_of _ (by decide +kernel)) ggX8_trace_X8_in
theorem dX8_trace_0 : decode cX8_trace 0 = .ok (.iload_n 1, 1) := by decide +kernel
theorem dX8_trace_1 : decode cX8_trace 1 = .ok (.i2l, 1) := by decide +kernel
theorem dX8_trace_2 : decode cX8_trace 2 = .ok (.lconst 0, 1) := by decide +kernel
theorem dX8_trace_3 : decode cX8_trace 3 = .ok (.aload_n 0, 1) := by decide +kernel
theorem dX8_trace_4 : decode cX8_trace 4 = .ok (.getfield 276, 3) := by decide +kernel
theorem dX8_trace_7 : decode cX8_trace 7 = .ok (.iconst 1, 1) := by decide +kernel
theorem dX8_trace_8 : decode cX8_trace 8 = .ok (.isub, 1) := by decide +kernel
theorem dX8_trace_9 : decode cX8_trace 9 = .ok (.i2l, 1) := by decide +kernel
theorem dX8_trace_10 : decode cX8_trace 10 = .ok (.invokestatic 54, 3) := by decide +kernel
theorem dX8_trace_13 : decode cX8_trace 13 = .ok (.ifCond .eq 12, 3) := by decide +kernel
theorem dX8_trace_16 : decode cX8_trace 16 = .ok (.aload_n 0, 1) := by decide +kernel
theorem dX8_trace_17 : decode cX8_trace 17 = .ok (.getfield 44, 3) := by decide +kernel
theorem dX8_trace_20 : decode cX8_trace 20 = .ok (.iload_n 1, 1) := by decide +kernel
theorem dX8_trace_21 : decode cX8_trace 21 = .ok (.iaload, 1) := by decide +kernel
theorem dX8_trace_22 : decode cX8_trace 22 = .ok (.goto 5, 3) := by decide +kernel
theorem dX8_trace_25 : decode cX8_trace 25 = .ok (.ldc 237, 2) := by decide +kernel
theorem dX8_trace_27 : decode cX8_trace 27 = .ok (.ireturn, 1) := by decide +kernel
theorem dX8_count_0 : decode cX8_count 0 = .ok (.iconst 0, 1) := by decide +kernel
theorem dX8_count_1 : decode cX8_count 1 = .ok (.istore_n 2, 1) := by decide +kernel
theorem dX8_count_2 : decode cX8_count 2 = .ok (.iconst 0, 1) := by decide +kernel
theorem dX8_count_3 : decode cX8_count 3 = .ok (.istore_n 3, 1) := by decide +kernel
theorem dX8_count_4 : decode cX8_count 4 = .ok (.iload_n 3, 1) := by decide +kernel
theorem dX8_count_5 : decode cX8_count 5 = .ok (.bipush 8, 2) := by decide +kernel
theorem dX8_count_7 : decode cX8_count 7 = .ok (.if_icmp .ge 26, 3) := by decide +kernel
theorem dX8_count_10 : decode cX8_count 10 = .ok (.iload_n 2, 1) := by decide +kernel
theorem dX8_count_11 : decode cX8_count 11 = .ok (.aload_n 0, 1) := by decide +kernel
theorem dX8_count_12 : decode cX8_count 12 = .ok (.getfield 7, 3) := by decide +kernel
theorem dX8_count_15 : decode cX8_count 15 = .ok (.iload_n 3, 1) := by decide +kernel
theorem dX8_count_16 : decode cX8_count 16 = .ok (.iaload, 1) := by decide +kernel
theorem dX8_count_17 : decode cX8_count 17 = .ok (.ifCond .ge 7, 3) := by decide +kernel
theorem dX8_count_20 : decode cX8_count 20 = .ok (.iconst 0, 1) := by decide +kernel
theorem dX8_count_21 : decode cX8_count 21 = .ok (.goto 4, 3) := by decide +kernel
theorem dX8_count_24 : decode cX8_count 24 = .ok (.iconst 1, 1) := by decide +kernel
theorem dX8_count_25 : decode cX8_count 25 = .ok (.iadd, 1) := by decide +kernel
theorem dX8_count_26 : decode cX8_count 26 = .ok (.istore_n 2, 1) := by decide +kernel
theorem dX8_count_27 : decode cX8_count 27 = .ok (.iinc 3 1, 3) := by decide +kernel
theorem dX8_count_30 : decode cX8_count 30 = .ok (.goto (-26), 3) := by decide +kernel
theorem dX8_count_33 : decode cX8_count 33 = .ok (.iload_n 1, 1) := by decide +kernel
theorem dX8_count_34 : decode cX8_count 34 = .ok (.tableswitch 72 0 7 #[46, 48, 48, 48, 48, 57, 62, 67], 46) := by decide +kernel
theorem dX8_count_80 : decode cX8_count 80 = .ok (.iload_n 2, 1) := by decide +kernel
theorem dX8_count_81 : decode cX8_count 81 = .ok (.ireturn, 1) := by decide +kernel
theorem dX8_count_82 : decode cX8_count 82 = .ok (.aload_n 0, 1) := by decide +kernel
theorem dX8_count_83 : decode cX8_count 83 = .ok (.getfield 22, 3) := by decide +kernel
theorem dX8_count_86 : decode cX8_count 86 = .ok (.iload_n 1, 1) := by decide +kernel
theorem dX8_count_87 : decode cX8_count 87 = .ok (.iconst 1, 1) := by decide +kernel
theorem dX8_count_88 : decode cX8_count 88 = .ok (.isub, 1) := by decide +kernel
theorem dX8_count_89 : decode cX8_count 89 = .ok (.iaload, 1) := by decide +kernel
theorem dX8_count_90 : decode cX8_count 90 = .ok (.ireturn, 1) := by decide +kernel
theorem dX8_count_91 : decode cX8_count 91 = .ok (.aload_n 0, 1) := by decide +kernel
theorem dX8_count_92 : decode cX8_count 92 = .ok (.getfield 144, 3) := by decide +kernel
theorem dX8_count_95 : decode cX8_count 95 = .ok (.ireturn, 1) := by decide +kernel
theorem dX8_count_96 : decode cX8_count 96 = .ok (.aload_n 0, 1) := by decide +kernel
theorem dX8_count_97 : decode cX8_count 97 = .ok (.getfield 147, 3) := by decide +kernel
theorem dX8_count_100 : decode cX8_count 100 = .ok (.ireturn, 1) := by decide +kernel
theorem dX8_count_101 : decode cX8_count 101 = .ok (.aload_n 0, 1) := by decide +kernel
theorem dX8_count_102 : decode cX8_count 102 = .ok (.getfield 78, 3) := by decide +kernel
theorem dX8_count_105 : decode cX8_count 105 = .ok (.ireturn, 1) := by decide +kernel
theorem dX8_count_106 : decode cX8_count 106 = .ok (.ldc 64, 2) := by decide +kernel
theorem dX8_count_108 : decode cX8_count 108 = .ok (.ireturn, 1) := by decide +kernel
theorem dX8_status_0 : decode cX8_status 0 = .ok (.aload_n 0, 1) := by decide +kernel
theorem dX8_status_1 : decode cX8_status 1 = .ok (.getfield 47, 3) := by decide +kernel
theorem dX8_status_4 : decode cX8_status 4 = .ok (.ireturn, 1) := by decide +kernel
