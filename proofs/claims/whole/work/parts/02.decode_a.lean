set_option maxRecDepth 20000 in
theorem ggX0_init_X2_init : GoodIn wsX0_init wsX2_init := goodIn_r _ [15, 16, 2, 3, 17, 18, 19, 20, 27, 28, 29, 30] (by decide +kernel) (by decide +kernel)
set_option maxRecDepth 20000 in
theorem gX0_init_X2_init_n34 : GoodIn wsX0_init (wsX2_init) := ggX0_init_X2_init
theorem dX0_init_0 : decode cX0_init 0 = .ok (.aload_n 0, 1) := by decide +kernel
theorem dX0_init_1 : decode cX0_init 1 = .ok (.invokespecial 3, 3) := by decide +kernel
theorem dX0_init_4 : decode cX0_init 4 = .ok (.aload_n 0, 1) := by decide +kernel
theorem dX0_init_5 : decode cX0_init 5 = .ok (.bipush 24, 2) := by decide +kernel
theorem dX0_init_7 : decode cX0_init 7 = .ok (.anewarray 9, 3) := by decide +kernel
theorem dX0_init_10 : decode cX0_init 10 = .ok (.putfield 11, 3) := by decide +kernel
theorem dX0_init_13 : decode cX0_init 13 = .ok (.aload_n 0, 1) := by decide +kernel
theorem dX0_init_14 : decode cX0_init 14 = .ok (.bipush 24, 2) := by decide +kernel
theorem dX0_init_16 : decode cX0_init 16 = .ok (.newarray .int, 2) := by decide +kernel
theorem dX0_init_18 : decode cX0_init 18 = .ok (.putfield 17, 3) := by decide +kernel
theorem dX0_init_21 : decode cX0_init 21 = .ok (.aload_n 0, 1) := by decide +kernel
theorem dX0_init_22 : decode cX0_init 22 = .ok (.bipush 24, 2) := by decide +kernel
theorem dX0_init_24 : decode cX0_init 24 = .ok (.newarray .int, 2) := by decide +kernel
theorem dX0_init_26 : decode cX0_init 26 = .ok (.putfield 21, 3) := by decide +kernel
theorem dX0_init_29 : decode cX0_init 29 = .ok (.aload_n 0, 1) := by decide +kernel
theorem dX0_init_30 : decode cX0_init 30 = .ok (.bipush 24, 2) := by decide +kernel
theorem dX0_init_32 : decode cX0_init 32 = .ok (.newarray .int, 2) := by decide +kernel
theorem dX0_init_34 : decode cX0_init 34 = .ok (.putfield 24, 3) := by decide +kernel
theorem dX0_init_37 : decode cX0_init 37 = .ok (.aload_n 0, 1) := by decide +kernel
theorem dX0_init_38 : decode cX0_init 38 = .ok (.iconst 0, 1) := by decide +kernel
theorem dX0_init_39 : decode cX0_init 39 = .ok (.putfield 27, 3) := by decide +kernel
theorem dX0_init_42 : decode cX0_init 42 = .ok (.aload_n 0, 1) := by decide +kernel
theorem dX0_init_43 : decode cX0_init 43 = .ok (.iconst 0, 1) := by decide +kernel
theorem dX0_init_44 : decode cX0_init 44 = .ok (.putfield 31, 3) := by decide +kernel
theorem dX0_init_47 : decode cX0_init 47 = .ok (.iconst 0, 1) := by decide +kernel
theorem dX0_init_48 : decode cX0_init 48 = .ok (.istore_n 1, 1) := by decide +kernel
theorem dX0_init_49 : decode cX0_init 49 = .ok (.iload_n 1, 1) := by decide +kernel
theorem dX0_init_50 : decode cX0_init 50 = .ok (.bipush 24, 2) := by decide +kernel
theorem dX0_init_52 : decode cX0_init 52 = .ok (.if_icmp .ge 22, 3) := by decide +kernel
theorem dX0_init_55 : decode cX0_init 55 = .ok (.aload_n 0, 1) := by decide +kernel
theorem dX0_init_56 : decode cX0_init 56 = .ok (.getfield 11, 3) := by decide +kernel
theorem dX0_init_59 : decode cX0_init 59 = .ok (.iload_n 1, 1) := by decide +kernel
theorem dX0_init_60 : decode cX0_init 60 = .ok (.new 9, 3) := by decide +kernel
theorem dX0_init_63 : decode cX0_init 63 = .ok (.dup, 1) := by decide +kernel
theorem dX0_init_64 : decode cX0_init 64 = .ok (.invokespecial 34, 3) := by decide +kernel
theorem dX0_init_67 : decode cX0_init 67 = .ok (.aastore, 1) := by decide +kernel
theorem dX0_init_68 : decode cX0_init 68 = .ok (.iinc 1 1, 3) := by decide +kernel
theorem dX0_init_71 : decode cX0_init 71 = .ok (.goto (-22), 3) := by decide +kernel
theorem dX0_init_74 : decode cX0_init 74 = .ok (.return_, 1) := by decide +kernel
theorem dX0_clear_0 : decode cX0_clear 0 = .ok (.aload_n 0, 1) := by decide +kernel
theorem dX0_clear_1 : decode cX0_clear 1 = .ok (.iconst 0, 1) := by decide +kernel
theorem dX0_clear_2 : decode cX0_clear 2 = .ok (.putfield 31, 3) := by decide +kernel
theorem dX0_clear_5 : decode cX0_clear 5 = .ok (.return_, 1) := by decide +kernel
set_option maxRecDepth 20000 in
theorem ggX0_keep_X2_be : GoodIn wsX0_keep wsX2_be := goodIn_r _ [18, 19, 20, 21, 22, 38, 39, 40, 41] (by decide +kernel) (by decide +kernel)
set_option maxRecDepth 20000 in
theorem gX0_keep_X2_be : GoodIn wsX0_keep (wsV RX0 41 RX2 yX2_be wsX2_be) := goodIn_app (goodIn_of _ (by decide +kernel)) ggX0_keep_X2_be
theorem dX0_keep_0 : decode cX0_keep 0 = .ok (.aload_n 0, 1) := by decide +kernel
theorem dX0_keep_1 : decode cX0_keep 1 = .ok (.getfield 11, 3) := by decide +kernel
theorem dX0_keep_4 : decode cX0_keep 4 = .ok (.aload_n 0, 1) := by decide +kernel
theorem dX0_keep_5 : decode cX0_keep 5 = .ok (.getfield 27, 3) := by decide +kernel
theorem dX0_keep_8 : decode cX0_keep 8 = .ok (.aaload, 1) := by decide +kernel
theorem dX0_keep_9 : decode cX0_keep 9 = .ok (.aload_n 1, 1) := by decide +kernel
theorem dX0_keep_10 : decode cX0_keep 10 = .ok (.getfield 35, 3) := by decide +kernel
theorem dX0_keep_13 : decode cX0_keep 13 = .ok (.invokevirtual 41, 3) := by decide +kernel
theorem dX0_keep_16 : decode cX0_keep 16 = .ok (.aload_n 0, 1) := by decide +kernel
theorem dX0_keep_17 : decode cX0_keep 17 = .ok (.getfield 17, 3) := by decide +kernel
theorem dX0_keep_20 : decode cX0_keep 20 = .ok (.aload_n 0, 1) := by decide +kernel
theorem dX0_keep_21 : decode cX0_keep 21 = .ok (.getfield 27, 3) := by decide +kernel
theorem dX0_keep_24 : decode cX0_keep 24 = .ok (.aload_n 1, 1) := by decide +kernel
theorem dX0_keep_25 : decode cX0_keep 25 = .ok (.getfield 45, 3) := by decide +kernel
theorem dX0_keep_28 : decode cX0_keep 28 = .ok (.iastore, 1) := by decide +kernel
theorem dX0_keep_29 : decode cX0_keep 29 = .ok (.aload_n 0, 1) := by decide +kernel
theorem dX0_keep_30 : decode cX0_keep 30 = .ok (.getfield 21, 3) := by decide +kernel
theorem dX0_keep_33 : decode cX0_keep 33 = .ok (.aload_n 0, 1) := by decide +kernel
theorem dX0_keep_34 : decode cX0_keep 34 = .ok (.getfield 27, 3) := by decide +kernel
theorem dX0_keep_37 : decode cX0_keep 37 = .ok (.iload_n 2, 1) := by decide +kernel
theorem dX0_keep_38 : decode cX0_keep 38 = .ok (.iastore, 1) := by decide +kernel
theorem dX0_keep_39 : decode cX0_keep 39 = .ok (.aload_n 0, 1) := by decide +kernel
theorem dX0_keep_40 : decode cX0_keep 40 = .ok (.getfield 24, 3) := by decide +kernel
theorem dX0_keep_43 : decode cX0_keep 43 = .ok (.aload_n 0, 1) := by decide +kernel
theorem dX0_keep_44 : decode cX0_keep 44 = .ok (.getfield 27, 3) := by decide +kernel
theorem dX0_keep_47 : decode cX0_keep 47 = .ok (.aload_n 1, 1) := by decide +kernel
theorem dX0_keep_48 : decode cX0_keep 48 = .ok (.getfield 48, 3) := by decide +kernel
theorem dX0_keep_51 : decode cX0_keep 51 = .ok (.iload_n 2, 1) := by decide +kernel
theorem dX0_keep_52 : decode cX0_keep 52 = .ok (.iaload, 1) := by decide +kernel
theorem dX0_keep_53 : decode cX0_keep 53 = .ok (.iastore, 1) := by decide +kernel
theorem dX0_keep_54 : decode cX0_keep 54 = .ok (.aload_n 0, 1) := by decide +kernel
theorem dX0_keep_55 : decode cX0_keep 55 = .ok (.aload_n 0, 1) := by decide +kernel
theorem dX0_keep_56 : decode cX0_keep 56 = .ok (.getfield 27, 3) := by decide +kernel
theorem dX0_keep_59 : decode cX0_keep 59 = .ok (.iconst 1, 1) := by decide +kernel
theorem dX0_keep_60 : decode cX0_keep 60 = .ok (.iadd, 1) := by decide +kernel
theorem dX0_keep_61 : decode cX0_keep 61 = .ok (.bipush 24, 2) := by decide +kernel
theorem dX0_keep_63 : decode cX0_keep 63 = .ok (.irem, 1) := by decide +kernel
theorem dX0_keep_64 : decode cX0_keep 64 = .ok (.putfield 27, 3) := by decide +kernel
theorem dX0_keep_67 : decode cX0_keep 67 = .ok (.aload_n 0, 1) := by decide +kernel
theorem dX0_keep_68 : decode cX0_keep 68 = .ok (.aload_n 0, 1) := by decide +kernel
theorem dX0_keep_69 : decode cX0_keep 69 = .ok (.getfield 31, 3) := by decide +kernel
theorem dX0_keep_72 : decode cX0_keep 72 = .ok (.iconst 1, 1) := by decide +kernel
theorem dX0_keep_73 : decode cX0_keep 73 = .ok (.iadd, 1) := by decide +kernel
theorem dX0_keep_74 : decode cX0_keep 74 = .ok (.bipush 24, 2) := by decide +kernel
theorem dX0_keep_76 : decode cX0_keep 76 = .ok (.invokestatic 49, 3) := by decide +kernel
theorem dX0_keep_79 : decode cX0_keep 79 = .ok (.putfield 31, 3) := by decide +kernel
theorem dX0_keep_82 : decode cX0_keep 82 = .ok (.return_, 1) := by decide +kernel
set_option maxRecDepth 20000 in
theorem ggX0_takeBack_X2_be : GoodIn wsX0_takeBack wsX2_be := goodIn_r _ [14, 15, 16, 17, 18, 34, 35, 36, 37] (by decide +kernel) (by decide +kernel)
set_option maxRecDepth 20000 in
theorem gX0_takeBack_X2_be : GoodIn wsX0_takeBack (wsV RX0 41 RX2 yX2_be wsX2_be) := goodIn_app (goodIn_of _ (by decide +kernel)) ggX0_takeBack_X2_be
theorem dX0_takeBack_0 : decode cX0_takeBack 0 = .ok (.aload_n 0, 1) := by decide +kernel
theorem dX0_takeBack_1 : decode cX0_takeBack 1 = .ok (.aload_n 0, 1) := by decide +kernel
theorem dX0_takeBack_2 : decode cX0_takeBack 2 = .ok (.getfield 27, 3) := by decide +kernel
theorem dX0_takeBack_5 : decode cX0_takeBack 5 = .ok (.bipush 24, 2) := by decide +kernel
theorem dX0_takeBack_7 : decode cX0_takeBack 7 = .ok (.iadd, 1) := by decide +kernel
theorem dX0_takeBack_8 : decode cX0_takeBack 8 = .ok (.iconst 1, 1) := by decide +kernel
theorem dX0_takeBack_9 : decode cX0_takeBack 9 = .ok (.isub, 1) := by decide +kernel
theorem dX0_takeBack_10 : decode cX0_takeBack 10 = .ok (.bipush 24, 2) := by decide +kernel
theorem dX0_takeBack_12 : decode cX0_takeBack 12 = .ok (.irem, 1) := by decide +kernel
theorem dX0_takeBack_13 : decode cX0_takeBack 13 = .ok (.putfield 27, 3) := by decide +kernel
theorem dX0_takeBack_16 : decode cX0_takeBack 16 = .ok (.aload_n 0, 1) := by decide +kernel
theorem dX0_takeBack_17 : decode cX0_takeBack 17 = .ok (.dup, 1) := by decide +kernel
theorem dX0_takeBack_18 : decode cX0_takeBack 18 = .ok (.getfield 31, 3) := by decide +kernel
theorem dX0_takeBack_21 : decode cX0_takeBack 21 = .ok (.iconst 1, 1) := by decide +kernel
theorem dX0_takeBack_22 : decode cX0_takeBack 22 = .ok (.isub, 1) := by decide +kernel
theorem dX0_takeBack_23 : decode cX0_takeBack 23 = .ok (.putfield 31, 3) := by decide +kernel
theorem dX0_takeBack_26 : decode cX0_takeBack 26 = .ok (.aload_n 1, 1) := by decide +kernel
theorem dX0_takeBack_27 : decode cX0_takeBack 27 = .ok (.getfield 35, 3) := by decide +kernel
theorem dX0_takeBack_30 : decode cX0_takeBack 30 = .ok (.aload_n 0, 1) := by decide +kernel
theorem dX0_takeBack_31 : decode cX0_takeBack 31 = .ok (.getfield 11, 3) := by decide +kernel
theorem dX0_takeBack_34 : decode cX0_takeBack 34 = .ok (.aload_n 0, 1) := by decide +kernel
theorem dX0_takeBack_35 : decode cX0_takeBack 35 = .ok (.getfield 27, 3) := by decide +kernel
theorem dX0_takeBack_38 : decode cX0_takeBack 38 = .ok (.aaload, 1) := by decide +kernel
theorem dX0_takeBack_39 : decode cX0_takeBack 39 = .ok (.invokevirtual 41, 3) := by decide +kernel
theorem dX0_takeBack_42 : decode cX0_takeBack 42 = .ok (.aload_n 1, 1) := by decide +kernel
theorem dX0_takeBack_43 : decode cX0_takeBack 43 = .ok (.aload_n 0, 1) := by decide +kernel
theorem dX0_takeBack_44 : decode cX0_takeBack 44 = .ok (.getfield 17, 3) := by decide +kernel
theorem dX0_takeBack_47 : decode cX0_takeBack 47 = .ok (.aload_n 0, 1) := by decide +kernel
theorem dX0_takeBack_48 : decode cX0_takeBack 48 = .ok (.getfield 27, 3) := by decide +kernel
theorem dX0_takeBack_51 : decode cX0_takeBack 51 = .ok (.iaload, 1) := by decide +kernel
theorem dX0_takeBack_52 : decode cX0_takeBack 52 = .ok (.putfield 45, 3) := by decide +kernel
theorem dX0_takeBack_55 : decode cX0_takeBack 55 = .ok (.aload_n 1, 1) := by decide +kernel
theorem dX0_takeBack_56 : decode cX0_takeBack 56 = .ok (.getfield 48, 3) := by decide +kernel
theorem dX0_takeBack_59 : decode cX0_takeBack 59 = .ok (.aload_n 0, 1) := by decide +kernel
theorem dX0_takeBack_60 : decode cX0_takeBack 60 = .ok (.getfield 21, 3) := by decide +kernel
theorem dX0_takeBack_63 : decode cX0_takeBack 63 = .ok (.aload_n 0, 1) := by decide +kernel
theorem dX0_takeBack_64 : decode cX0_takeBack 64 = .ok (.getfield 27, 3) := by decide +kernel
theorem dX0_takeBack_67 : decode cX0_takeBack 67 = .ok (.iaload, 1) := by decide +kernel
theorem dX0_takeBack_68 : decode cX0_takeBack 68 = .ok (.aload_n 0, 1) := by decide +kernel
theorem dX0_takeBack_69 : decode cX0_takeBack 69 = .ok (.getfield 24, 3) := by decide +kernel
theorem dX0_takeBack_72 : decode cX0_takeBack 72 = .ok (.aload_n 0, 1) := by decide +kernel
theorem dX0_takeBack_73 : decode cX0_takeBack 73 = .ok (.getfield 27, 3) := by decide +kernel
theorem dX0_takeBack_76 : decode cX0_takeBack 76 = .ok (.iaload, 1) := by decide +kernel
theorem dX0_takeBack_77 : decode cX0_takeBack 77 = .ok (.iastore, 1) := by decide +kernel
theorem dX0_takeBack_78 : decode cX0_takeBack 78 = .ok (.return_, 1) := by decide +kernel
theorem dX1_init_0 : decode cX1_init 0 = .ok (.aload_n 0, 1) := by decide +kernel
theorem dX1_init_1 : decode cX1_init 1 = .ok (.invokespecial 3, 3) := by decide +kernel
theorem dX1_init_4 : decode cX1_init 4 = .ok (.aload_n 0, 1) := by decide +kernel
theorem dX1_init_5 : decode cX1_init 5 = .ok (.bipush 16, 2) := by decide +kernel
theorem dX1_init_7 : decode cX1_init 7 = .ok (.newarray .int, 2) := by decide +kernel
theorem dX1_init_9 : decode cX1_init 9 = .ok (.putfield 9, 3) := by decide +kernel
theorem dX1_init_12 : decode cX1_init 12 = .ok (.aload_n 0, 1) := by decide +kernel
theorem dX1_init_13 : decode cX1_init 13 = .ok (.iconst 0, 1) := by decide +kernel
theorem dX1_init_14 : decode cX1_init 14 = .ok (.putfield 15, 3) := by decide +kernel
theorem dX1_init_17 : decode cX1_init 17 = .ok (.aload_n 0, 1) := by decide +kernel
theorem dX1_init_18 : decode cX1_init 18 = .ok (.iconst 0, 1) := by decide +kernel
theorem dX1_init_19 : decode cX1_init 19 = .ok (.putfield 19, 3) := by decide +kernel
theorem dX1_init_22 : decode cX1_init 22 = .ok (.aload_n 0, 1) := by decide +kernel
theorem dX1_init_23 : decode cX1_init 23 = .ok (.iconst 0, 1) := by decide +kernel
theorem dX1_init_24 : decode cX1_init 24 = .ok (.putfield 22, 3) := by decide +kernel
theorem dX1_init_27 : decode cX1_init 27 = .ok (.aload_n 0, 1) := by decide +kernel
theorem dX1_init_28 : decode cX1_init 28 = .ok (.iconst 0, 1) := by decide +kernel
theorem dX1_init_29 : decode cX1_init 29 = .ok (.putfield 25, 3) := by decide +kernel
theorem dX1_init_32 : decode cX1_init 32 = .ok (.aload_n 0, 1) := by decide +kernel
theorem dX1_init_33 : decode cX1_init 33 = .ok (.iconst 0, 1) := by decide +kernel
theorem dX1_init_34 : decode cX1_init 34 = .ok (.putfield 28, 3) := by decide +kernel
theorem dX1_init_37 : decode cX1_init 37 = .ok (.return_, 1) := by decide +kernel
set_option maxRecDepth 20000 in
theorem ggX1_begin_X3_kindAt : GoodIn wsX1_begin wsX3_kindAt := goodIn_r _ [12, 13, 14, 15, 16, 17, 29, 30, 31, 32, 33, 34, 35, 36, 37] (by decide +kernel) (by decide +kernel)
set_option maxRecDepth 20000 in
theorem gX1_begin_X3_kindAt : GoodIn wsX1_begin (wsV RX1 31 RX3 yX3_kindAt wsX3_kindAt) := goodIn_app (goodIn_of _ (by decide +kernel)) ggX1_begin_X3_kindAt
set_option maxRecDepth 20000 in
theorem ggX1_begin_X3_forceAt : GoodIn wsX1_begin wsX3_forceAt := goodIn_r _ [21, 13, 22, 15, 16, 17, 29, 30, 31, 32, 33, 34, 35, 36, 37] (by decide +kernel) (by decide +kernel)
set_option maxRecDepth 20000 in
theorem gX1_begin_X3_forceAt : GoodIn wsX1_begin (wsV RX1 37 RX3 yX3_forceAt wsX3_forceAt) := goodIn_app (goodIn_of _ (by decide +kernel)) ggX1_begin_X3_forceAt
theorem dX1_begin_0 : decode cX1_begin 0 = .ok (.aload_n 0, 1) := by decide +kernel
theorem dX1_begin_1 : decode cX1_begin 1 = .ok (.iconst 0, 1) := by decide +kernel
theorem dX1_begin_2 : decode cX1_begin 2 = .ok (.putfield 15, 3) := by decide +kernel
theorem dX1_begin_5 : decode cX1_begin 5 = .ok (.aload_n 0, 1) := by decide +kernel
theorem dX1_begin_6 : decode cX1_begin 6 = .ok (.aload_n 1, 1) := by decide +kernel
theorem dX1_begin_7 : decode cX1_begin 7 = .ok (.iload_n 2, 1) := by decide +kernel
theorem dX1_begin_8 : decode cX1_begin 8 = .ok (.invokevirtual 31, 3) := by decide +kernel
theorem dX1_begin_11 : decode cX1_begin 11 = .ok (.putfield 19, 3) := by decide +kernel
theorem dX1_begin_14 : decode cX1_begin 14 = .ok (.aload_n 0, 1) := by decide +kernel
theorem dX1_begin_15 : decode cX1_begin 15 = .ok (.iload_n 2, 1) := by decide +kernel
theorem dX1_begin_16 : decode cX1_begin 16 = .ok (.putfield 22, 3) := by decide +kernel
theorem dX1_begin_19 : decode cX1_begin 19 = .ok (.aload_n 0, 1) := by decide +kernel
theorem dX1_begin_20 : decode cX1_begin 20 = .ok (.aload_n 1, 1) := by decide +kernel
theorem dX1_begin_21 : decode cX1_begin 21 = .ok (.iload_n 2, 1) := by decide +kernel
theorem dX1_begin_22 : decode cX1_begin 22 = .ok (.invokevirtual 37, 3) := by decide +kernel
theorem dX1_begin_25 : decode cX1_begin 25 = .ok (.putfield 25, 3) := by decide +kernel
theorem dX1_begin_28 : decode cX1_begin 28 = .ok (.aload_n 0, 1) := by decide +kernel
theorem dX1_begin_29 : decode cX1_begin 29 = .ok (.aload_n 1, 1) := by decide +kernel
theorem dX1_begin_30 : decode cX1_begin 30 = .ok (.getfield 40, 3) := by decide +kernel
theorem dX1_begin_33 : decode cX1_begin 33 = .ok (.getfield 44, 3) := by decide +kernel
theorem dX1_begin_36 : decode cX1_begin 36 = .ok (.putfield 28, 3) := by decide +kernel
theorem dX1_begin_39 : decode cX1_begin 39 = .ok (.return_, 1) := by decide +kernel
set_option maxRecDepth 20000 in
theorem ggX1_size_X1_leave : GoodIn wsX1_size wsX1_leave := goodIn_r _ [6, 7, 8, 40, 41, 42, 43, 44, 45] (by decide +kernel) (by decide +kernel)
set_option maxRecDepth 20000 in
theorem gX1_size_X1_leave : GoodIn wsX1_size (wsV RX1 47 RX1 yX1_leave wsX1_leave) := goodIn_app (goodIn_of _ (by decide +kernel)) ggX1_size_X1_leave
set_option maxRecDepth 20000 in
theorem ggX1_size_X1_drivingSize : GoodIn wsX1_size wsX1_drivingSize := goodIn_r _ [12, 2, 3, 4, 5, 6, 7, 8, 13, 14, 15, 16, 17, 18, 19, 20, 21, 1, 22, 23, 24, 25, 26, 27, 28, 29, 30, 31, 40, 41, 42, 43, 44, 45] (by decide +kernel) (by decide +kernel)
set_option maxRecDepth 20000 in
theorem gX1_size_X1_drivingSize : GoodIn wsX1_size (wsV RX1 51 RX1 yX1_drivingSize wsX1_drivingSize) := goodIn_app (goodIn_of _ (by decide +kernel)) ggX1_size_X1_drivingSize
set_option maxRecDepth 20000 in
theorem ggX1_size_X1_brakedSize : GoodIn wsX1_size wsX1_brakedSize := goodIn_r _ [35, 1, 2, 3, 4, 5, 6, 7, 8, 36, 37, 38, 39, 13, 14, 15, 16, 17, 40, 41, 42, 43, 44, 45] (by decide +kernel) (by decide +kernel)
set_option maxRecDepth 20000 in
theorem gX1_size_X1_brakedSize : GoodIn wsX1_size (wsV RX1 55 RX1 yX1_brakedSize wsX1_brakedSize) := goodIn_app (goodIn_of _ (by decide +kernel)) ggX1_size_X1_brakedSize
theorem dX1_size_0 : decode cX1_size 0 = .ok (.aload_n 0, 1) := by decide +kernel
theorem dX1_size_1 : decode cX1_size 1 = .ok (.getfield 19, 3) := by decide +kernel
theorem dX1_size_4 : decode cX1_size 4 = .ok (.tableswitch 50 2 5 #[32, 50, 45, 45], 32) := by decide +kernel
theorem dX1_size_36 : decode cX1_size 36 = .ok (.aload_n 0, 1) := by decide +kernel
theorem dX1_size_37 : decode cX1_size 37 = .ok (.bipush 12, 2) := by decide +kernel
theorem dX1_size_39 : decode cX1_size 39 = .ok (.invokevirtual 47, 3) := by decide +kernel
theorem dX1_size_42 : decode cX1_size 42 = .ok (.iconst 0, 1) := by decide +kernel
theorem dX1_size_43 : decode cX1_size 43 = .ok (.aload_n 0, 1) := by decide +kernel
theorem dX1_size_44 : decode cX1_size 44 = .ok (.invokevirtual 51, 3) := by decide +kernel
theorem dX1_size_47 : decode cX1_size 47 = .ok (.isub, 1) := by decide +kernel
theorem dX1_size_48 : decode cX1_size 48 = .ok (.ireturn, 1) := by decide +kernel
theorem dX1_size_49 : decode cX1_size 49 = .ok (.aload_n 0, 1) := by decide +kernel
theorem dX1_size_50 : decode cX1_size 50 = .ok (.invokevirtual 55, 3) := by decide +kernel
theorem dX1_size_53 : decode cX1_size 53 = .ok (.ireturn, 1) := by decide +kernel
theorem dX1_size_54 : decode cX1_size 54 = .ok (.aload_n 0, 1) := by decide +kernel
theorem dX1_size_55 : decode cX1_size 55 = .ok (.invokevirtual 51, 3) := by decide +kernel
theorem dX1_size_58 : decode cX1_size 58 = .ok (.ireturn, 1) := by decide +kernel
set_option maxRecDepth 20000 in
theorem ggX1_mark_X7_isOfKind : GoodIn wsX1_mark wsX7_isOfKind := goodIn_r _ [4, 5] (by decide +kernel) (by decide +kernel)
set_option maxRecDepth 20000 in
theorem gX1_mark_X7_isOfKind_n58 : GoodIn wsX1_mark (wsX7_isOfKind) := ggX1_mark_X7_isOfKind
set_option maxRecDepth 20000 in
theorem ggX1_mark_X1_brakingMark : GoodIn wsX1_mark wsX1_brakingMark := goodIn_r _ [10, 11, 12, 13, 9, 14, 15, 16, 17, 18, 19, 20, 21, 22, 23, 24, 25, 1, 26, 27, 28, 29, 30, 31, 32, 33, 34, 44, 45, 46, 47, 48, 49] (by decide +kernel) (by decide +kernel)
set_option maxRecDepth 20000 in
theorem gX1_mark_X1_brakingMark : GoodIn wsX1_mark (wsV RX1 62 RX1 yX1_brakingMark wsX1_brakingMark) := goodIn_app (goodIn_of _ (by decide +kernel)) ggX1_mark_X1_brakingMark
set_option maxRecDepth 20000 in
theorem ggX1_mark_X1_drivenMark : GoodIn wsX1_mark wsX1_drivenMark := goodIn_r _ [38, 1, 11, 12, 13, 9, 14, 15, 16, 39, 40, 41, 42, 43, 17, 18, 19, 20, 21, 44, 45, 46, 47, 48, 49] (by decide +kernel) (by decide +kernel)
set_option maxRecDepth 20000 in
theorem gX1_mark_X1_drivenMark : GoodIn wsX1_mark (wsV RX1 65 RX1 yX1_drivenMark wsX1_drivenMark) := goodIn_app (goodIn_of _ (by decide +kernel)) ggX1_mark_X1_drivenMark
theorem dX1_mark_0 : decode cX1_mark 0 = .ok (.aload_n 0, 1) := by decide +kernel
theorem dX1_mark_1 : decode cX1_mark 1 = .ok (.getfield 19, 3) := by decide +kernel
theorem dX1_mark_4 : decode cX1_mark 4 = .ok (.iconst 4, 1) := by decide +kernel
theorem dX1_mark_5 : decode cX1_mark 5 = .ok (.invokestatic 58, 3) := by decide +kernel
theorem dX1_mark_8 : decode cX1_mark 8 = .ok (.ifCond .eq 10, 3) := by decide +kernel
theorem dX1_mark_11 : decode cX1_mark 11 = .ok (.aload_n 0, 1) := by decide +kernel
theorem dX1_mark_12 : decode cX1_mark 12 = .ok (.invokevirtual 62, 3) := by decide +kernel
theorem dX1_mark_15 : decode cX1_mark 15 = .ok (.goto 7, 3) := by decide +kernel
theorem dX1_mark_18 : decode cX1_mark 18 = .ok (.aload_n 0, 1) := by decide +kernel
theorem dX1_mark_19 : decode cX1_mark 19 = .ok (.invokevirtual 65, 3) := by decide +kernel
theorem dX1_mark_22 : decode cX1_mark 22 = .ok (.ireturn, 1) := by decide +kernel
set_option maxRecDepth 20000 in
theorem ggX1_drivenMark_X1_leave : GoodIn wsX1_drivenMark wsX1_leave := goodIn_r _ [6, 7, 8, 19, 20, 21, 22, 23, 24] (by decide +kernel) (by decide +kernel)
set_option maxRecDepth 20000 in
theorem gX1_drivenMark_X1_leave : GoodIn wsX1_drivenMark (wsV RX1 47 RX1 yX1_leave wsX1_leave) := goodIn_app (goodIn_of _ (by decide +kernel)) ggX1_drivenMark_X1_leave
set_option maxRecDepth 20000 in
theorem ggX1_drivenMark_X1_drivingMark : GoodIn wsX1_drivenMark wsX1_drivingMark := goodIn_r _ [12, 13, 2, 3, 4, 5, 6, 7, 8, 14, 15, 16, 17, 18, 19, 20, 21, 22, 23, 24] (by decide +kernel) (by decide +kernel)
set_option maxRecDepth 20000 in
theorem gX1_drivenMark_X1_drivingMark : GoodIn wsX1_drivenMark (wsV RX1 68 RX1 yX1_drivingMark wsX1_drivingMark) := goodIn_app (goodIn_of _ (by decide +kernel)) ggX1_drivenMark_X1_drivingMark
theorem dX1_drivenMark_0 : decode cX1_drivenMark 0 = .ok (.aload_n 0, 1) := by decide +kernel
theorem dX1_drivenMark_1 : decode cX1_drivenMark 1 = .ok (.getfield 19, 3) := by decide +kernel
theorem dX1_drivenMark_4 : decode cX1_drivenMark 4 = .ok (.lookupswitch 56 #[(2, 28), (3, 41)], 28) := by decide +kernel
theorem dX1_drivenMark_32 : decode cX1_drivenMark 32 = .ok (.aload_n 0, 1) := by decide +kernel
theorem dX1_drivenMark_33 : decode cX1_drivenMark 33 = .ok (.bipush 24, 2) := by decide +kernel
theorem dX1_drivenMark_35 : decode cX1_drivenMark 35 = .ok (.invokevirtual 47, 3) := by decide +kernel
theorem dX1_drivenMark_38 : decode cX1_drivenMark 38 = .ok (.iconst 2, 1) := by decide +kernel
theorem dX1_drivenMark_39 : decode cX1_drivenMark 39 = .ok (.aload_n 0, 1) := by decide +kernel
theorem dX1_drivenMark_40 : decode cX1_drivenMark 40 = .ok (.invokevirtual 68, 3) := by decide +kernel
theorem dX1_drivenMark_43 : decode cX1_drivenMark 43 = .ok (.imul, 1) := by decide +kernel
theorem dX1_drivenMark_44 : decode cX1_drivenMark 44 = .ok (.ireturn, 1) := by decide +kernel
theorem dX1_drivenMark_45 : decode cX1_drivenMark 45 = .ok (.aload_n 0, 1) := by decide +kernel
theorem dX1_drivenMark_46 : decode cX1_drivenMark 46 = .ok (.bipush 22, 2) := by decide +kernel
theorem dX1_drivenMark_48 : decode cX1_drivenMark 48 = .ok (.invokevirtual 47, 3) := by decide +kernel
theorem dX1_drivenMark_51 : decode cX1_drivenMark 51 = .ok (.aload_n 0, 1) := by decide +kernel
theorem dX1_drivenMark_52 : decode cX1_drivenMark 52 = .ok (.invokevirtual 68, 3) := by decide +kernel
theorem dX1_drivenMark_55 : decode cX1_drivenMark 55 = .ok (.sipush 1000, 3) := by decide +kernel
theorem dX1_drivenMark_58 : decode cX1_drivenMark 58 = .ok (.isub, 1) := by decide +kernel
theorem dX1_drivenMark_59 : decode cX1_drivenMark 59 = .ok (.ireturn, 1) := by decide +kernel
theorem dX1_drivenMark_60 : decode cX1_drivenMark 60 = .ok (.aload_n 0, 1) := by decide +kernel
theorem dX1_drivenMark_61 : decode cX1_drivenMark 61 = .ok (.invokevirtual 68, 3) := by decide +kernel
theorem dX1_drivenMark_64 : decode cX1_drivenMark 64 = .ok (.ireturn, 1) := by decide +kernel
set_option maxRecDepth 20000 in
theorem ggX1_brakedSize_X1_leave : GoodIn wsX1_brakedSize wsX1_leave := goodIn_r _ [6, 7, 8, 18, 19, 20, 21, 22, 23] (by decide +kernel) (by decide +kernel)
set_option maxRecDepth 20000 in
theorem gX1_brakedSize_X1_leave : GoodIn wsX1_brakedSize (wsV RX1 47 RX1 yX1_leave wsX1_leave) := goodIn_app (goodIn_of _ (by decide +kernel)) ggX1_brakedSize_X1_leave
set_option maxRecDepth 20000 in
theorem ggX1_brakedSize_X1_brakingSize : GoodIn wsX1_brakedSize wsX1_brakingSize := goodIn_r _ [12, 2, 3, 4, 5, 6, 7, 8, 13, 14, 15, 16, 17, 18, 19, 20, 21, 22, 23] (by decide +kernel) (by decide +kernel)
set_option maxRecDepth 20000 in
theorem gX1_brakedSize_X1_brakingSize : GoodIn wsX1_brakedSize (wsV RX1 71 RX1 yX1_brakingSize wsX1_brakingSize) := goodIn_app (goodIn_of _ (by decide +kernel)) ggX1_brakedSize_X1_brakingSize
theorem dX1_brakedSize_0 : decode cX1_brakedSize 0 = .ok (.aload_n 0, 1) := by decide +kernel
theorem dX1_brakedSize_1 : decode cX1_brakedSize 1 = .ok (.getfield 19, 3) := by decide +kernel
theorem dX1_brakedSize_4 : decode cX1_brakedSize 4 = .ok (.iconst 5, 1) := by decide +kernel
theorem dX1_brakedSize_5 : decode cX1_brakedSize 5 = .ok (.if_icmp .ne 16, 3) := by decide +kernel
theorem dX1_brakedSize_8 : decode cX1_brakedSize 8 = .ok (.aload_n 0, 1) := by decide +kernel
theorem dX1_brakedSize_9 : decode cX1_brakedSize 9 = .ok (.bipush 14, 2) := by decide +kernel
theorem dX1_brakedSize_11 : decode cX1_brakedSize 11 = .ok (.invokevirtual 47, 3) := by decide +kernel
theorem dX1_brakedSize_14 : decode cX1_brakedSize 14 = .ok (.iconst 2, 1) := by decide +kernel
theorem dX1_brakedSize_15 : decode cX1_brakedSize 15 = .ok (.aload_n 0, 1) := by decide +kernel
theorem dX1_brakedSize_16 : decode cX1_brakedSize 16 = .ok (.invokevirtual 71, 3) := by decide +kernel
theorem dX1_brakedSize_19 : decode cX1_brakedSize 19 = .ok (.imul, 1) := by decide +kernel
theorem dX1_brakedSize_20 : decode cX1_brakedSize 20 = .ok (.ireturn, 1) := by decide +kernel
theorem dX1_brakedSize_21 : decode cX1_brakedSize 21 = .ok (.aload_n 0, 1) := by decide +kernel
theorem dX1_brakedSize_22 : decode cX1_brakedSize 22 = .ok (.invokevirtual 71, 3) := by decide +kernel
theorem dX1_brakedSize_25 : decode cX1_brakedSize 25 = .ok (.ireturn, 1) := by decide +kernel
set_option maxRecDepth 20000 in
theorem ggX1_lentSize_X1_leave : GoodIn wsX1_lentSize wsX1_leave := goodIn_r _ [6, 7, 8, 9, 10, 11, 12, 13, 14] (by decide +kernel) (by decide +kernel)
set_option maxRecDepth 20000 in
theorem gX1_lentSize_X1_leave : GoodIn wsX1_lentSize (wsV RX1 47 RX1 yX1_leave wsX1_leave) := goodIn_app (goodIn_of _ (by decide +kernel)) ggX1_lentSize_X1_leave
theorem dX1_lentSize_0 : decode cX1_lentSize 0 = .ok (.aload_n 0, 1) := by decide +kernel
theorem dX1_lentSize_1 : decode cX1_lentSize 1 = .ok (.bipush 10, 2) := by decide +kernel
theorem dX1_lentSize_3 : decode cX1_lentSize 3 = .ok (.invokevirtual 47, 3) := by decide +kernel
theorem dX1_lentSize_6 : decode cX1_lentSize 6 = .ok (.aload_n 0, 1) := by decide +kernel
theorem dX1_lentSize_7 : decode cX1_lentSize 7 = .ok (.getfield 25, 3) := by decide +kernel
theorem dX1_lentSize_10 : decode cX1_lentSize 10 = .ok (.ireturn, 1) := by decide +kernel
set_option maxRecDepth 20000 in
theorem ggX1_drivingSize_X1_leave : GoodIn wsX1_drivingSize wsX1_leave := goodIn_r _ [5, 6, 7, 28, 29, 30, 31, 32, 33] (by decide +kernel) (by decide +kernel)
set_option maxRecDepth 20000 in
theorem gX1_drivingSize_X1_leave : GoodIn wsX1_drivingSize (wsV RX1 47 RX1 yX1_leave wsX1_leave) := goodIn_app (goodIn_of _ (by decide +kernel)) ggX1_drivingSize_X1_leave
set_option maxRecDepth 20000 in
theorem ggX1_drivingSize_X1_lentSize : GoodIn wsX1_drivingSize wsX1_lentSize := goodIn_r _ [11, 12, 1, 2, 3, 4, 5, 6, 7, 28, 29, 30, 31, 32, 33] (by decide +kernel) (by decide +kernel)
set_option maxRecDepth 20000 in
theorem gX1_drivingSize_X1_lentSize : GoodIn wsX1_drivingSize (wsV RX1 74 RX1 yX1_lentSize wsX1_lentSize) := goodIn_app (goodIn_of _ (by decide +kernel)) ggX1_drivingSize_X1_lentSize
set_option maxRecDepth 20000 in
theorem ggX1_drivingSize_X1_drivenMark : GoodIn wsX1_drivingSize wsX1_drivenMark := goodIn_r _ [16, 17, 1, 2, 3, 4, 5, 6, 7, 18, 19, 20, 21, 22, 23, 24, 25, 26, 27, 28, 29, 30, 31, 32, 33] (by decide +kernel) (by decide +kernel)
set_option maxRecDepth 20000 in
theorem gX1_drivingSize_X1_drivenMark : GoodIn wsX1_drivingSize (wsV RX1 65 RX1 yX1_drivenMark wsX1_drivenMark) := goodIn_app (goodIn_of _ (by decide +kernel)) ggX1_drivingSize_X1_drivenMark
theorem dX1_drivingSize_0 : decode cX1_drivingSize 0 = .ok (.aload_n 0, 1) := by decide +kernel
theorem dX1_drivingSize_1 : decode cX1_drivingSize 1 = .ok (.bipush 11, 2) := by decide +kernel
theorem dX1_drivingSize_3 : decode cX1_drivingSize 3 = .ok (.invokevirtual 47, 3) := by decide +kernel
theorem dX1_drivingSize_6 : decode cX1_drivingSize 6 = .ok (.aload_n 0, 1) := by decide +kernel
theorem dX1_drivingSize_7 : decode cX1_drivingSize 7 = .ok (.invokevirtual 74, 3) := by decide +kernel
theorem dX1_drivingSize_10 : decode cX1_drivingSize 10 = .ok (.aload_n 0, 1) := by decide +kernel
theorem dX1_drivingSize_11 : decode cX1_drivingSize 11 = .ok (.invokevirtual 65, 3) := by decide +kernel
theorem dX1_drivingSize_14 : decode cX1_drivingSize 14 = .ok (.iadd, 1) := by decide +kernel
theorem dX1_drivingSize_15 : decode cX1_drivingSize 15 = .ok (.ireturn, 1) := by decide +kernel
set_option maxRecDepth 20000 in
theorem ggX1_brakingSize_X1_leave : GoodIn wsX1_brakingSize wsX1_leave := goodIn_r _ [5, 6, 7, 13, 14, 15, 16, 17, 18] (by decide +kernel) (by decide +kernel)
set_option maxRecDepth 20000 in
theorem gX1_brakingSize_X1_leave : GoodIn wsX1_brakingSize (wsV RX1 47 RX1 yX1_leave wsX1_leave) := goodIn_app (goodIn_of _ (by decide +kernel)) ggX1_brakingSize_X1_leave
set_option maxRecDepth 20000 in
theorem ggX1_brakingSize_X1_lentSize : GoodIn wsX1_brakingSize wsX1_lentSize := goodIn_r _ [11, 12, 1, 2, 3, 4, 5, 6, 7, 13, 14, 15, 16, 17, 18] (by decide +kernel) (by decide +kernel)
set_option maxRecDepth 20000 in
theorem gX1_brakingSize_X1_lentSize : GoodIn wsX1_brakingSize (wsV RX1 74 RX1 yX1_lentSize wsX1_lentSize) := goodIn_app (goodIn_of _ (by decide +kernel)) ggX1_brakingSize_X1_lentSize
theorem dX1_brakingSize_0 : decode cX1_brakingSize 0 = .ok (.aload_n 0, 1) := by decide +kernel
theorem dX1_brakingSize_1 : decode cX1_brakingSize 1 = .ok (.bipush 13, 2) := by decide +kernel
theorem dX1_brakingSize_3 : decode cX1_brakingSize 3 = .ok (.invokevirtual 47, 3) := by decide +kernel
theorem dX1_brakingSize_6 : decode cX1_brakingSize 6 = .ok (.aload_n 0, 1) := by decide +kernel
theorem dX1_brakingSize_7 : decode cX1_brakingSize 7 = .ok (.invokevirtual 74, 3) := by decide +kernel
theorem dX1_brakingSize_10 : decode cX1_brakingSize 10 = .ok (.bipush 100, 2) := by decide +kernel
theorem dX1_brakingSize_12 : decode cX1_brakingSize 12 = .ok (.isub, 1) := by decide +kernel
theorem dX1_brakingSize_13 : decode cX1_brakingSize 13 = .ok (.ireturn, 1) := by decide +kernel
set_option maxRecDepth 20000 in
theorem ggX1_lentMark_X1_leave : GoodIn wsX1_lentMark wsX1_leave := goodIn_r _ [6, 7, 8, 9, 10, 11, 12, 13, 14] (by decide +kernel) (by decide +kernel)
set_option maxRecDepth 20000 in
theorem gX1_lentMark_X1_leave : GoodIn wsX1_lentMark (wsV RX1 47 RX1 yX1_leave wsX1_leave) := goodIn_app (goodIn_of _ (by decide +kernel)) ggX1_lentMark_X1_leave
theorem dX1_lentMark_0 : decode cX1_lentMark 0 = .ok (.aload_n 0, 1) := by decide +kernel
theorem dX1_lentMark_1 : decode cX1_lentMark 1 = .ok (.bipush 20, 2) := by decide +kernel
theorem dX1_lentMark_3 : decode cX1_lentMark 3 = .ok (.invokevirtual 47, 3) := by decide +kernel
theorem dX1_lentMark_6 : decode cX1_lentMark 6 = .ok (.aload_n 0, 1) := by decide +kernel
theorem dX1_lentMark_7 : decode cX1_lentMark 7 = .ok (.getfield 22, 3) := by decide +kernel
theorem dX1_lentMark_10 : decode cX1_lentMark 10 = .ok (.ireturn, 1) := by decide +kernel
set_option maxRecDepth 20000 in
theorem ggX1_drivingMark_X1_leave : GoodIn wsX1_drivingMark wsX1_leave := goodIn_r _ [6, 7, 8, 14, 15, 16, 17, 18, 19] (by decide +kernel) (by decide +kernel)
set_option maxRecDepth 20000 in
theorem gX1_drivingMark_X1_leave : GoodIn wsX1_drivingMark (wsV RX1 47 RX1 yX1_leave wsX1_leave) := goodIn_app (goodIn_of _ (by decide +kernel)) ggX1_drivingMark_X1_leave
set_option maxRecDepth 20000 in
theorem ggX1_drivingMark_X1_lentMark : GoodIn wsX1_drivingMark wsX1_lentMark := goodIn_r _ [12, 13, 2, 3, 4, 5, 6, 7, 8, 14, 15, 16, 17, 18, 19] (by decide +kernel) (by decide +kernel)
set_option maxRecDepth 20000 in
theorem gX1_drivingMark_X1_lentMark : GoodIn wsX1_drivingMark (wsV RX1 77 RX1 yX1_lentMark wsX1_lentMark) := goodIn_app (goodIn_of _ (by decide +kernel)) ggX1_drivingMark_X1_lentMark
theorem dX1_drivingMark_0 : decode cX1_drivingMark 0 = .ok (.aload_n 0, 1) := by decide +kernel
theorem dX1_drivingMark_1 : decode cX1_drivingMark 1 = .ok (.bipush 21, 2) := by decide +kernel
theorem dX1_drivingMark_3 : decode cX1_drivingMark 3 = .ok (.invokevirtual 47, 3) := by decide +kernel
theorem dX1_drivingMark_6 : decode cX1_drivingMark 6 = .ok (.aload_n 0, 1) := by decide +kernel
theorem dX1_drivingMark_7 : decode cX1_drivingMark 7 = .ok (.invokevirtual 77, 3) := by decide +kernel
theorem dX1_drivingMark_10 : decode cX1_drivingMark 10 = .ok (.aload_n 0, 1) := by decide +kernel
theorem dX1_drivingMark_11 : decode cX1_drivingMark 11 = .ok (.getfield 28, 3) := by decide +kernel
theorem dX1_drivingMark_14 : decode cX1_drivingMark 14 = .ok (.iadd, 1) := by decide +kernel
theorem dX1_drivingMark_15 : decode cX1_drivingMark 15 = .ok (.ireturn, 1) := by decide +kernel
set_option maxRecDepth 20000 in
theorem ggX1_brakingMark_X1_leave : GoodIn wsX1_brakingMark wsX1_leave := goodIn_r _ [5, 6, 7, 27, 28, 29, 30, 31, 32] (by decide +kernel) (by decide +kernel)
set_option maxRecDepth 20000 in
theorem gX1_brakingMark_X1_leave : GoodIn wsX1_brakingMark (wsV RX1 47 RX1 yX1_leave wsX1_leave) := goodIn_app (goodIn_of _ (by decide +kernel)) ggX1_brakingMark_X1_leave
set_option maxRecDepth 20000 in
theorem ggX1_brakingMark_X1_lentMark : GoodIn wsX1_brakingMark wsX1_lentMark := goodIn_r _ [11, 12, 1, 2, 3, 4, 5, 6, 7, 27, 28, 29, 30, 31, 32] (by decide +kernel) (by decide +kernel)
set_option maxRecDepth 20000 in
theorem gX1_brakingMark_X1_lentMark : GoodIn wsX1_brakingMark (wsV RX1 77 RX1 yX1_lentMark wsX1_lentMark) := goodIn_app (goodIn_of _ (by decide +kernel)) ggX1_brakingMark_X1_lentMark
set_option maxRecDepth 20000 in
theorem ggX1_brakingMark_X1_brakedSize : GoodIn wsX1_brakingMark wsX1_brakedSize := goodIn_r _ [16, 17, 1, 2, 3, 4, 5, 6, 7, 18, 19, 20, 21, 22, 23, 24, 25, 26, 27, 28, 29, 30, 31, 32] (by decide +kernel) (by decide +kernel)
set_option maxRecDepth 20000 in
theorem gX1_brakingMark_X1_brakedSize : GoodIn wsX1_brakingMark (wsV RX1 55 RX1 yX1_brakedSize wsX1_brakedSize) := goodIn_app (goodIn_of _ (by decide +kernel)) ggX1_brakingMark_X1_brakedSize
theorem dX1_brakingMark_0 : decode cX1_brakingMark 0 = .ok (.aload_n 0, 1) := by decide +kernel
theorem dX1_brakingMark_1 : decode cX1_brakingMark 1 = .ok (.bipush 23, 2) := by decide +kernel
theorem dX1_brakingMark_3 : decode cX1_brakingMark 3 = .ok (.invokevirtual 47, 3) := by decide +kernel
theorem dX1_brakingMark_6 : decode cX1_brakingMark 6 = .ok (.aload_n 0, 1) := by decide +kernel
theorem dX1_brakingMark_7 : decode cX1_brakingMark 7 = .ok (.invokevirtual 77, 3) := by decide +kernel
theorem dX1_brakingMark_10 : decode cX1_brakingMark 10 = .ok (.aload_n 0, 1) := by decide +kernel
theorem dX1_brakingMark_11 : decode cX1_brakingMark 11 = .ok (.invokevirtual 55, 3) := by decide +kernel
theorem dX1_brakingMark_14 : decode cX1_brakingMark 14 = .ok (.isub, 1) := by decide +kernel
theorem dX1_brakingMark_15 : decode cX1_brakingMark 15 = .ok (.ireturn, 1) := by decide +kernel
theorem dX1_leave_0 : decode cX1_leave 0 = .ok (.aload_n 0, 1) := by decide +kernel
theorem dX1_leave_1 : decode cX1_leave 1 = .ok (.getfield 15, 3) := by decide +kernel
theorem dX1_leave_4 : decode cX1_leave 4 = .ok (.aload_n 0, 1) := by decide +kernel
theorem dX1_leave_5 : decode cX1_leave 5 = .ok (.getfield 9, 3) := by decide +kernel
theorem dX1_leave_8 : decode cX1_leave 8 = .ok (.arraylength, 1) := by decide +kernel
theorem dX1_leave_9 : decode cX1_leave 9 = .ok (.if_icmp .ge 23, 3) := by decide +kernel
theorem dX1_leave_12 : decode cX1_leave 12 = .ok (.aload_n 0, 1) := by decide +kernel
theorem dX1_leave_13 : decode cX1_leave 13 = .ok (.getfield 9, 3) := by decide +kernel
theorem dX1_leave_16 : decode cX1_leave 16 = .ok (.aload_n 0, 1) := by decide +kernel
theorem dX1_leave_17 : decode cX1_leave 17 = .ok (.getfield 15, 3) := by decide +kernel
theorem dX1_leave_20 : decode cX1_leave 20 = .ok (.iload_n 1, 1) := by decide +kernel
theorem dX1_leave_21 : decode cX1_leave 21 = .ok (.iastore, 1) := by decide +kernel
theorem dX1_leave_22 : decode cX1_leave 22 = .ok (.aload_n 0, 1) := by decide +kernel
theorem dX1_leave_23 : decode cX1_leave 23 = .ok (.dup, 1) := by decide +kernel
theorem dX1_leave_24 : decode cX1_leave 24 = .ok (.getfield 15, 3) := by decide +kernel
theorem dX1_leave_27 : decode cX1_leave 27 = .ok (.iconst 1, 1) := by decide +kernel
theorem dX1_leave_28 : decode cX1_leave 28 = .ok (.iadd, 1) := by decide +kernel
theorem dX1_leave_29 : decode cX1_leave 29 = .ok (.putfield 15, 3) := by decide +kernel
theorem dX1_leave_32 : decode cX1_leave 32 = .ok (.return_, 1) := by decide +kernel
theorem dX2_init_0 : decode cX2_init 0 = .ok (.aload_n 0, 1) := by decide +kernel
theorem dX2_init_1 : decode cX2_init 1 = .ok (.invokespecial 3, 3) := by decide +kernel
theorem dX2_init_4 : decode cX2_init 4 = .ok (.aload_n 0, 1) := by decide +kernel
theorem dX2_init_5 : decode cX2_init 5 = .ok (.iconst 0, 1) := by decide +kernel
theorem dX2_init_6 : decode cX2_init 6 = .ok (.putfield 9, 3) := by decide +kernel
theorem dX2_init_9 : decode cX2_init 9 = .ok (.aload_n 0, 1) := by decide +kernel
theorem dX2_init_10 : decode cX2_init 10 = .ok (.iconst 0, 1) := by decide +kernel
theorem dX2_init_11 : decode cX2_init 11 = .ok (.putfield 15, 3) := by decide +kernel
theorem dX2_init_14 : decode cX2_init 14 = .ok (.aload_n 0, 1) := by decide +kernel
theorem dX2_init_15 : decode cX2_init 15 = .ok (.iconst 0, 1) := by decide +kernel
theorem dX2_init_16 : decode cX2_init 16 = .ok (.putfield 18, 3) := by decide +kernel
theorem dX2_init_19 : decode cX2_init 19 = .ok (.aload_n 0, 1) := by decide +kernel
theorem dX2_init_20 : decode cX2_init 20 = .ok (.iconst 0, 1) := by decide +kernel
theorem dX2_init_21 : decode cX2_init 21 = .ok (.putfield 21, 3) := by decide +kernel
theorem dX2_init_24 : decode cX2_init 24 = .ok (.return_, 1) := by decide +kernel
theorem dX2_be_0 : decode cX2_be 0 = .ok (.aload_n 0, 1) := by decide +kernel
theorem dX2_be_1 : decode cX2_be 1 = .ok (.aload_n 1, 1) := by decide +kernel
theorem dX2_be_2 : decode cX2_be 2 = .ok (.getfield 9, 3) := by decide +kernel
theorem dX2_be_5 : decode cX2_be 5 = .ok (.putfield 9, 3) := by decide +kernel
theorem dX2_be_8 : decode cX2_be 8 = .ok (.aload_n 0, 1) := by decide +kernel
theorem dX2_be_9 : decode cX2_be 9 = .ok (.aload_n 1, 1) := by decide +kernel
theorem dX2_be_10 : decode cX2_be 10 = .ok (.getfield 15, 3) := by decide +kernel
theorem dX2_be_13 : decode cX2_be 13 = .ok (.putfield 15, 3) := by decide +kernel
theorem dX2_be_16 : decode cX2_be 16 = .ok (.aload_n 0, 1) := by decide +kernel
theorem dX2_be_17 : decode cX2_be 17 = .ok (.aload_n 1, 1) := by decide +kernel
theorem dX2_be_18 : decode cX2_be 18 = .ok (.getfield 18, 3) := by decide +kernel
theorem dX2_be_21 : decode cX2_be 21 = .ok (.putfield 18, 3) := by decide +kernel
theorem dX2_be_24 : decode cX2_be 24 = .ok (.aload_n 0, 1) := by decide +kernel
theorem dX2_be_25 : decode cX2_be 25 = .ok (.aload_n 1, 1) := by decide +kernel
theorem dX2_be_26 : decode cX2_be 26 = .ok (.getfield 21, 3) := by decide +kernel
theorem dX2_be_29 : decode cX2_be 29 = .ok (.putfield 21, 3) := by decide +kernel
theorem dX2_be_32 : decode cX2_be 32 = .ok (.return_, 1) := by decide +kernel
theorem dX2_stand_0 : decode cX2_stand 0 = .ok (.aload_n 0, 1) := by decide +kernel
theorem dX2_stand_1 : decode cX2_stand 1 = .ok (.iload_n 1, 1) := by decide +kernel
theorem dX2_stand_2 : decode cX2_stand 2 = .ok (.putfield 9, 3) := by decide +kernel
theorem dX2_stand_5 : decode cX2_stand 5 = .ok (.aload_n 0, 1) := by decide +kernel
theorem dX2_stand_6 : decode cX2_stand 6 = .ok (.iload_n 2, 1) := by decide +kernel
theorem dX2_stand_7 : decode cX2_stand 7 = .ok (.putfield 15, 3) := by decide +kernel
theorem dX2_stand_10 : decode cX2_stand 10 = .ok (.aload_n 0, 1) := by decide +kernel
theorem dX2_stand_11 : decode cX2_stand 11 = .ok (.iload_n 3, 1) := by decide +kernel
theorem dX2_stand_12 : decode cX2_stand 12 = .ok (.putfield 18, 3) := by decide +kernel
theorem dX2_stand_15 : decode cX2_stand 15 = .ok (.aload_n 0, 1) := by decide +kernel
theorem dX2_stand_16 : decode cX2_stand 16 = .ok (.iconst 0, 1) := by decide +kernel
theorem dX2_stand_17 : decode cX2_stand 17 = .ok (.putfield 21, 3) := by decide +kernel
theorem dX2_stand_20 : decode cX2_stand 20 = .ok (.return_, 1) := by decide +kernel
theorem dX2_tell_0 : decode cX2_tell 0 = .ok (.iload_n 1, 1) := by decide +kernel
theorem dX2_tell_1 : decode cX2_tell 1 = .ok (.tableswitch 42 0 2 #[27, 32, 37], 27) := by decide +kernel
theorem dX2_tell_28 : decode cX2_tell 28 = .ok (.aload_n 0, 1) := by decide +kernel
theorem dX2_tell_29 : decode cX2_tell 29 = .ok (.getfield 9, 3) := by decide +kernel
theorem dX2_tell_32 : decode cX2_tell 32 = .ok (.ireturn, 1) := by decide +kernel
theorem dX2_tell_33 : decode cX2_tell 33 = .ok (.aload_n 0, 1) := by decide +kernel
theorem dX2_tell_34 : decode cX2_tell 34 = .ok (.getfield 15, 3) := by decide +kernel
theorem dX2_tell_37 : decode cX2_tell 37 = .ok (.ireturn, 1) := by decide +kernel
theorem dX2_tell_38 : decode cX2_tell 38 = .ok (.aload_n 0, 1) := by decide +kernel
theorem dX2_tell_39 : decode cX2_tell 39 = .ok (.getfield 18, 3) := by decide +kernel
theorem dX2_tell_42 : decode cX2_tell 42 = .ok (.ireturn, 1) := by decide +kernel
theorem dX2_tell_43 : decode cX2_tell 43 = .ok (.aload_n 0, 1) := by decide +kernel
theorem dX2_tell_44 : decode cX2_tell 44 = .ok (.getfield 21, 3) := by decide +kernel
theorem dX2_tell_47 : decode cX2_tell 47 = .ok (.ireturn, 1) := by decide +kernel
set_option maxRecDepth 20000 in
theorem ggX2_pass_X2_takeTap : GoodIn wsX2_pass wsX2_takeTap := goodIn_r _ [13, 7, 14, 15, 16, 17, 18, 19, 20, 21, 22, 23, 12, 24, 3, 36, 37, 38, 39] (by decide +kernel) (by decide +kernel)
set_option maxRecDepth 20000 in
theorem gX2_pass_X2_takeTap : GoodIn wsX2_pass (wsV RX2 24 RX2 yX2_takeTap wsX2_takeTap) := goodIn_app (goodIn_of _ (by decide +kernel)) ggX2_pass_X2_takeTap
set_option maxRecDepth 20000 in
theorem ggX2_pass_X2_comeTo : GoodIn wsX2_pass wsX2_comeTo := goodIn_r _ [28, 7, 21, 22, 23, 12, 24, 3, 18, 19, 16, 20, 14, 15, 17, 29, 30, 31, 32, 36, 37, 38, 39] (by decide +kernel) (by decide +kernel)
set_option maxRecDepth 20000 in
theorem gX2_pass_X2_comeTo : GoodIn wsX2_pass (wsV RX2 37 RX2 yX2_comeTo wsX2_comeTo) := goodIn_app (goodIn_of _ (by decide +kernel)) ggX2_pass_X2_comeTo
set_option maxRecDepth 20000 in
theorem ggX2_pass_X2_changePace : GoodIn wsX2_pass wsX2_changePace := goodIn_r _ [24, 3, 18, 19, 16, 20, 14, 15, 17, 36, 37, 38, 39] (by decide +kernel) (by decide +kernel)
set_option maxRecDepth 20000 in
theorem gX2_pass_X2_changePace : GoodIn wsX2_pass (wsV RX2 44 RX2 yX2_changePace wsX2_changePace) := goodIn_app (goodIn_of _ (by decide +kernel)) ggX2_pass_X2_changePace
set_option maxRecDepth 20000 in
theorem ggX2_pass_X2_leanFurther : GoodIn wsX2_pass wsX2_leanFurther := goodIn_r _ [32, 7, 36, 37, 38, 39] (by decide +kernel) (by decide +kernel)
set_option maxRecDepth 20000 in
theorem gX2_pass_X2_leanFurther : GoodIn wsX2_pass (wsV RX2 47 RX2 yX2_leanFurther wsX2_leanFurther) := goodIn_app (goodIn_of _ (by decide +kernel)) ggX2_pass_X2_leanFurther
set_option maxRecDepth 20000 in
theorem ggX2_pass_X7_isOut : GoodIn wsX2_pass wsX7_isOut := goodIn_r _ [35] (by decide +kernel) (by decide +kernel)
set_option maxRecDepth 20000 in
theorem gX2_pass_X7_isOut_n53 : GoodIn wsX2_pass (wsX7_isOut) := ggX2_pass_X7_isOut
theorem dX2_pass_0 : decode cX2_pass 0 = .ok (.aload_n 0, 1) := by decide +kernel
theorem dX2_pass_1 : decode cX2_pass 1 = .ok (.getfield 21, 3) := by decide +kernel
theorem dX2_pass_4 : decode cX2_pass 4 = .ok (.ifCond .eq 4, 3) := by decide +kernel
theorem dX2_pass_7 : decode cX2_pass 7 = .ok (.return_, 1) := by decide +kernel
theorem dX2_pass_8 : decode cX2_pass 8 = .ok (.aload_n 0, 1) := by decide +kernel
theorem dX2_pass_9 : decode cX2_pass 9 = .ok (.iload_n 2, 1) := by decide +kernel
theorem dX2_pass_10 : decode cX2_pass 10 = .ok (.iload_n 3, 1) := by decide +kernel
theorem dX2_pass_11 : decode cX2_pass 11 = .ok (.invokevirtual 24, 3) := by decide +kernel
theorem dX2_pass_14 : decode cX2_pass 14 = .ok (.aload_n 0, 1) := by decide +kernel
theorem dX2_pass_15 : decode cX2_pass 15 = .ok (.dup, 1) := by decide +kernel
theorem dX2_pass_16 : decode cX2_pass 16 = .ok (.getfield 9, 3) := by decide +kernel
theorem dX2_pass_19 : decode cX2_pass 19 = .ok (.aload_n 0, 1) := by decide +kernel
theorem dX2_pass_20 : decode cX2_pass 20 = .ok (.getfield 15, 3) := by decide +kernel
theorem dX2_pass_23 : decode cX2_pass 23 = .ok (.iconst 3, 1) := by decide +kernel
theorem dX2_pass_24 : decode cX2_pass 24 = .ok (.idiv, 1) := by decide +kernel
theorem dX2_pass_25 : decode cX2_pass 25 = .ok (.iconst 1, 1) := by decide +kernel
theorem dX2_pass_26 : decode cX2_pass 26 = .ok (.iadd, 1) := by decide +kernel
theorem dX2_pass_27 : decode cX2_pass 27 = .ok (.iadd, 1) := by decide +kernel
theorem dX2_pass_28 : decode cX2_pass 28 = .ok (.putfield 9, 3) := by decide +kernel
theorem dX2_pass_31 : decode cX2_pass 31 = .ok (.aload_n 0, 1) := by decide +kernel
theorem dX2_pass_32 : decode cX2_pass 32 = .ok (.getfield 9, 3) := by decide +kernel
theorem dX2_pass_35 : decode cX2_pass 35 = .ok (.aload_n 1, 1) := by decide +kernel
theorem dX2_pass_36 : decode cX2_pass 36 = .ok (.getfield 28, 3) := by decide +kernel
theorem dX2_pass_39 : decode cX2_pass 39 = .ok (.if_icmp .lt 17, 3) := by decide +kernel
theorem dX2_pass_42 : decode cX2_pass 42 = .ok (.aload_n 0, 1) := by decide +kernel
theorem dX2_pass_43 : decode cX2_pass 43 = .ok (.aload_n 1, 1) := by decide +kernel
theorem dX2_pass_44 : decode cX2_pass 44 = .ok (.getfield 28, 3) := by decide +kernel
theorem dX2_pass_47 : decode cX2_pass 47 = .ok (.putfield 9, 3) := by decide +kernel
theorem dX2_pass_50 : decode cX2_pass 50 = .ok (.aload_n 0, 1) := by decide +kernel
theorem dX2_pass_51 : decode cX2_pass 51 = .ok (.iconst 2, 1) := by decide +kernel
theorem dX2_pass_52 : decode cX2_pass 52 = .ok (.putfield 21, 3) := by decide +kernel
theorem dX2_pass_55 : decode cX2_pass 55 = .ok (.return_, 1) := by decide +kernel
theorem dX2_pass_56 : decode cX2_pass 56 = .ok (.iload_n 2, 1) := by decide +kernel
theorem dX2_pass_57 : decode cX2_pass 57 = .ok (.iconst 3, 1) := by decide +kernel
theorem dX2_pass_58 : decode cX2_pass 58 = .ok (.if_icmp .eq 16, 3) := by decide +kernel
theorem dX2_pass_61 : decode cX2_pass 61 = .ok (.aload_n 0, 1) := by decide +kernel
theorem dX2_pass_62 : decode cX2_pass 62 = .ok (.aload_n 1, 1) := by decide +kernel
theorem dX2_pass_63 : decode cX2_pass 63 = .ok (.getfield 33, 3) := by decide +kernel
theorem dX2_pass_66 : decode cX2_pass 66 = .ok (.aload_n 0, 1) := by decide +kernel
theorem dX2_pass_67 : decode cX2_pass 67 = .ok (.getfield 9, 3) := by decide +kernel
theorem dX2_pass_70 : decode cX2_pass 70 = .ok (.iaload, 1) := by decide +kernel
theorem dX2_pass_71 : decode cX2_pass 71 = .ok (.invokevirtual 37, 3) := by decide +kernel
theorem dX2_pass_74 : decode cX2_pass 74 = .ok (.aload_n 0, 1) := by decide +kernel
theorem dX2_pass_75 : decode cX2_pass 75 = .ok (.iconst 0, 1) := by decide +kernel
theorem dX2_pass_76 : decode cX2_pass 76 = .ok (.aload_n 1, 1) := by decide +kernel
theorem dX2_pass_77 : decode cX2_pass 77 = .ok (.getfield 41, 3) := by decide +kernel
theorem dX2_pass_80 : decode cX2_pass 80 = .ok (.isub, 1) := by decide +kernel
theorem dX2_pass_81 : decode cX2_pass 81 = .ok (.invokevirtual 44, 3) := by decide +kernel
theorem dX2_pass_84 : decode cX2_pass 84 = .ok (.aload_n 0, 1) := by decide +kernel
theorem dX2_pass_85 : decode cX2_pass 85 = .ok (.getfield 15, 3) := by decide +kernel
theorem dX2_pass_88 : decode cX2_pass 88 = .ok (.iconst 4, 1) := by decide +kernel
theorem dX2_pass_89 : decode cX2_pass 89 = .ok (.if_icmp .ge 22, 3) := by decide +kernel
theorem dX2_pass_92 : decode cX2_pass 92 = .ok (.aload_n 0, 1) := by decide +kernel
theorem dX2_pass_93 : decode cX2_pass 93 = .ok (.iconst 1, 1) := by decide +kernel
theorem dX2_pass_94 : decode cX2_pass 94 = .ok (.aload_n 0, 1) := by decide +kernel
theorem dX2_pass_95 : decode cX2_pass 95 = .ok (.getfield 9, 3) := by decide +kernel
theorem dX2_pass_98 : decode cX2_pass 98 = .ok (.iconst 2, 1) := by decide +kernel
theorem dX2_pass_99 : decode cX2_pass 99 = .ok (.irem, 1) := by decide +kernel
theorem dX2_pass_100 : decode cX2_pass 100 = .ok (.ifCond .ne 7, 3) := by decide +kernel
theorem dX2_pass_103 : decode cX2_pass 103 = .ok (.iconst 1, 1) := by decide +kernel
theorem dX2_pass_104 : decode cX2_pass 104 = .ok (.goto 4, 3) := by decide +kernel
theorem dX2_pass_107 : decode cX2_pass 107 = .ok (.iconst (-1), 1) := by decide +kernel
theorem dX2_pass_108 : decode cX2_pass 108 = .ok (.invokevirtual 47, 3) := by decide +kernel
theorem dX2_pass_111 : decode cX2_pass 111 = .ok (.aload_n 0, 1) := by decide +kernel
theorem dX2_pass_112 : decode cX2_pass 112 = .ok (.getfield 18, 3) := by decide +kernel
theorem dX2_pass_115 : decode cX2_pass 115 = .ok (.iconst 0, 1) := by decide +kernel
theorem dX2_pass_116 : decode cX2_pass 116 = .ok (.aload_n 1, 1) := by decide +kernel
theorem dX2_pass_117 : decode cX2_pass 117 = .ok (.getfield 50, 3) := by decide +kernel
theorem dX2_pass_120 : decode cX2_pass 120 = .ok (.isub, 1) := by decide +kernel
theorem dX2_pass_121 : decode cX2_pass 121 = .ok (.aload_n 1, 1) := by decide +kernel
theorem dX2_pass_122 : decode cX2_pass 122 = .ok (.getfield 50, 3) := by decide +kernel
theorem dX2_pass_125 : decode cX2_pass 125 = .ok (.invokestatic 53, 3) := by decide +kernel
theorem dX2_pass_128 : decode cX2_pass 128 = .ok (.ifCond .ne 10, 3) := by decide +kernel
theorem dX2_pass_131 : decode cX2_pass 131 = .ok (.aload_n 0, 1) := by decide +kernel
theorem dX2_pass_132 : decode cX2_pass 132 = .ok (.getfield 15, 3) := by decide +kernel
theorem dX2_pass_135 : decode cX2_pass 135 = .ok (.ifCond .ne 8, 3) := by decide +kernel
theorem dX2_pass_138 : decode cX2_pass 138 = .ok (.aload_n 0, 1) := by decide +kernel
theorem dX2_pass_139 : decode cX2_pass 139 = .ok (.iconst 1, 1) := by decide +kernel
theorem dX2_pass_140 : decode cX2_pass 140 = .ok (.putfield 21, 3) := by decide +kernel
theorem dX2_pass_143 : decode cX2_pass 143 = .ok (.return_, 1) := by decide +kernel
set_option maxRecDepth 20000 in
theorem ggX2_takeTap_X2_changePace : GoodIn wsX2_takeTap wsX2_changePace := goodIn_r _ [13, 14, 6, 7, 4, 8, 2, 3, 5, 15, 16, 17, 18] (by decide +kernel) (by decide +kernel)
set_option maxRecDepth 20000 in
theorem gX2_takeTap_X2_changePace : GoodIn wsX2_takeTap (wsV RX2 44 RX2 yX2_changePace wsX2_changePace) := goodIn_app (goodIn_of _ (by decide +kernel)) ggX2_takeTap_X2_changePace
theorem dX2_takeTap_0 : decode cX2_takeTap 0 = .ok (.iload_n 1, 1) := by decide +kernel
theorem dX2_takeTap_1 : decode cX2_takeTap 1 = .ok (.tableswitch 112 1 5 #[35, 43, 35, 87, 97], 35) := by decide +kernel
theorem dX2_takeTap_36 : decode cX2_takeTap 36 = .ok (.aload_n 0, 1) := by decide +kernel
theorem dX2_takeTap_37 : decode cX2_takeTap 37 = .ok (.iload_n 2, 1) := by decide +kernel
theorem dX2_takeTap_38 : decode cX2_takeTap 38 = .ok (.invokevirtual 44, 3) := by decide +kernel
theorem dX2_takeTap_41 : decode cX2_takeTap 41 = .ok (.goto 72, 3) := by decide +kernel
theorem dX2_takeTap_44 : decode cX2_takeTap 44 = .ok (.aload_n 0, 1) := by decide +kernel
theorem dX2_takeTap_45 : decode cX2_takeTap 45 = .ok (.iload_n 2, 1) := by decide +kernel
theorem dX2_takeTap_46 : decode cX2_takeTap 46 = .ok (.iconst 2, 1) := by decide +kernel
theorem dX2_takeTap_47 : decode cX2_takeTap 47 = .ok (.idiv, 1) := by decide +kernel
theorem dX2_takeTap_48 : decode cX2_takeTap 48 = .ok (.invokevirtual 44, 3) := by decide +kernel
theorem dX2_takeTap_51 : decode cX2_takeTap 51 = .ok (.aload_n 0, 1) := by decide +kernel
theorem dX2_takeTap_52 : decode cX2_takeTap 52 = .ok (.aload_n 0, 1) := by decide +kernel
theorem dX2_takeTap_53 : decode cX2_takeTap 53 = .ok (.getfield 18, 3) := by decide +kernel
theorem dX2_takeTap_56 : decode cX2_takeTap 56 = .ok (.ifCond .le 16, 3) := by decide +kernel
theorem dX2_takeTap_59 : decode cX2_takeTap 59 = .ok (.iconst 0, 1) := by decide +kernel
theorem dX2_takeTap_60 : decode cX2_takeTap 60 = .ok (.aload_n 0, 1) := by decide +kernel
theorem dX2_takeTap_61 : decode cX2_takeTap 61 = .ok (.getfield 18, 3) := by decide +kernel
theorem dX2_takeTap_64 : decode cX2_takeTap 64 = .ok (.iload_n 2, 1) := by decide +kernel
theorem dX2_takeTap_65 : decode cX2_takeTap 65 = .ok (.isub, 1) := by decide +kernel
theorem dX2_takeTap_66 : decode cX2_takeTap 66 = .ok (.invokestatic 57, 3) := by decide +kernel
theorem dX2_takeTap_69 : decode cX2_takeTap 69 = .ok (.goto 13, 3) := by decide +kernel
theorem dX2_takeTap_72 : decode cX2_takeTap 72 = .ok (.iconst 0, 1) := by decide +kernel
theorem dX2_takeTap_73 : decode cX2_takeTap 73 = .ok (.aload_n 0, 1) := by decide +kernel
theorem dX2_takeTap_74 : decode cX2_takeTap 74 = .ok (.getfield 18, 3) := by decide +kernel
theorem dX2_takeTap_77 : decode cX2_takeTap 77 = .ok (.iload_n 2, 1) := by decide +kernel
theorem dX2_takeTap_78 : decode cX2_takeTap 78 = .ok (.iadd, 1) := by decide +kernel
theorem dX2_takeTap_79 : decode cX2_takeTap 79 = .ok (.invokestatic 63, 3) := by decide +kernel
theorem dX2_takeTap_82 : decode cX2_takeTap 82 = .ok (.putfield 18, 3) := by decide +kernel
theorem dX2_takeTap_85 : decode cX2_takeTap 85 = .ok (.goto 28, 3) := by decide +kernel
theorem dX2_takeTap_88 : decode cX2_takeTap 88 = .ok (.aload_n 0, 1) := by decide +kernel
theorem dX2_takeTap_89 : decode cX2_takeTap 89 = .ok (.iconst 0, 1) := by decide +kernel
theorem dX2_takeTap_90 : decode cX2_takeTap 90 = .ok (.iload_n 2, 1) := by decide +kernel
theorem dX2_takeTap_91 : decode cX2_takeTap 91 = .ok (.isub, 1) := by decide +kernel
theorem dX2_takeTap_92 : decode cX2_takeTap 92 = .ok (.invokevirtual 44, 3) := by decide +kernel
theorem dX2_takeTap_95 : decode cX2_takeTap 95 = .ok (.goto 18, 3) := by decide +kernel
theorem dX2_takeTap_98 : decode cX2_takeTap 98 = .ok (.aload_n 0, 1) := by decide +kernel
theorem dX2_takeTap_99 : decode cX2_takeTap 99 = .ok (.iconst 0, 1) := by decide +kernel
theorem dX2_takeTap_100 : decode cX2_takeTap 100 = .ok (.iload_n 2, 1) := by decide +kernel
theorem dX2_takeTap_101 : decode cX2_takeTap 101 = .ok (.isub, 1) := by decide +kernel
theorem dX2_takeTap_102 : decode cX2_takeTap 102 = .ok (.invokevirtual 44, 3) := by decide +kernel
theorem dX2_takeTap_105 : decode cX2_takeTap 105 = .ok (.aload_n 0, 1) := by decide +kernel
theorem dX2_takeTap_106 : decode cX2_takeTap 106 = .ok (.iconst 0, 1) := by decide +kernel
theorem dX2_takeTap_107 : decode cX2_takeTap 107 = .ok (.putfield 18, 3) := by decide +kernel
theorem dX2_takeTap_110 : decode cX2_takeTap 110 = .ok (.goto 3, 3) := by decide +kernel
theorem dX2_takeTap_113 : decode cX2_takeTap 113 = .ok (.return_, 1) := by decide +kernel
set_option maxRecDepth 20000 in
theorem ggX2_comeTo_X2_changePace : GoodIn wsX2_comeTo wsX2_changePace := goodIn_r _ [6, 7, 8, 9, 10, 11, 12, 13, 14, 19, 20, 21, 22] (by decide +kernel) (by decide +kernel)
set_option maxRecDepth 20000 in
theorem gX2_comeTo_X2_changePace : GoodIn wsX2_comeTo (wsV RX2 44 RX2 yX2_changePace wsX2_changePace) := goodIn_app (goodIn_of _ (by decide +kernel)) ggX2_comeTo_X2_changePace
set_option maxRecDepth 20000 in
theorem ggX2_comeTo_X2_leanFurther : GoodIn wsX2_comeTo wsX2_leanFurther := goodIn_r _ [18, 1, 19, 20, 21, 22] (by decide +kernel) (by decide +kernel)
set_option maxRecDepth 20000 in
theorem gX2_comeTo_X2_leanFurther : GoodIn wsX2_comeTo (wsV RX2 47 RX2 yX2_leanFurther wsX2_leanFurther) := goodIn_app (goodIn_of _ (by decide +kernel)) ggX2_comeTo_X2_leanFurther
theorem dX2_comeTo_0 : decode cX2_comeTo 0 = .ok (.iload_n 1, 1) := by decide +kernel
theorem dX2_comeTo_1 : decode cX2_comeTo 1 = .ok (.tableswitch 82 1 5 #[35, 43, 51, 59, 68], 35) := by decide +kernel
theorem dX2_comeTo_36 : decode cX2_comeTo 36 = .ok (.aload_n 0, 1) := by decide +kernel
theorem dX2_comeTo_37 : decode cX2_comeTo 37 = .ok (.iconst 2, 1) := by decide +kernel
theorem dX2_comeTo_38 : decode cX2_comeTo 38 = .ok (.invokevirtual 44, 3) := by decide +kernel
theorem dX2_comeTo_41 : decode cX2_comeTo 41 = .ok (.goto 42, 3) := by decide +kernel
theorem dX2_comeTo_44 : decode cX2_comeTo 44 = .ok (.aload_n 0, 1) := by decide +kernel
theorem dX2_comeTo_45 : decode cX2_comeTo 45 = .ok (.iconst (-1), 1) := by decide +kernel
theorem dX2_comeTo_46 : decode cX2_comeTo 46 = .ok (.invokevirtual 44, 3) := by decide +kernel
theorem dX2_comeTo_49 : decode cX2_comeTo 49 = .ok (.goto 34, 3) := by decide +kernel
theorem dX2_comeTo_52 : decode cX2_comeTo 52 = .ok (.aload_n 0, 1) := by decide +kernel
theorem dX2_comeTo_53 : decode cX2_comeTo 53 = .ok (.iconst 0, 1) := by decide +kernel
theorem dX2_comeTo_54 : decode cX2_comeTo 54 = .ok (.putfield 18, 3) := by decide +kernel
theorem dX2_comeTo_57 : decode cX2_comeTo 57 = .ok (.goto 26, 3) := by decide +kernel
theorem dX2_comeTo_60 : decode cX2_comeTo 60 = .ok (.aload_n 0, 1) := by decide +kernel
theorem dX2_comeTo_61 : decode cX2_comeTo 61 = .ok (.iconst 2, 1) := by decide +kernel
theorem dX2_comeTo_62 : decode cX2_comeTo 62 = .ok (.iconst 2, 1) := by decide +kernel
theorem dX2_comeTo_63 : decode cX2_comeTo 63 = .ok (.invokevirtual 47, 3) := by decide +kernel
theorem dX2_comeTo_66 : decode cX2_comeTo 66 = .ok (.goto 17, 3) := by decide +kernel
theorem dX2_comeTo_69 : decode cX2_comeTo 69 = .ok (.aload_n 0, 1) := by decide +kernel
theorem dX2_comeTo_70 : decode cX2_comeTo 70 = .ok (.iconst (-1), 1) := by decide +kernel
theorem dX2_comeTo_71 : decode cX2_comeTo 71 = .ok (.invokevirtual 44, 3) := by decide +kernel
theorem dX2_comeTo_74 : decode cX2_comeTo 74 = .ok (.aload_n 0, 1) := by decide +kernel
theorem dX2_comeTo_75 : decode cX2_comeTo 75 = .ok (.iconst 1, 1) := by decide +kernel
theorem dX2_comeTo_76 : decode cX2_comeTo 76 = .ok (.iconst (-1), 1) := by decide +kernel
theorem dX2_comeTo_77 : decode cX2_comeTo 77 = .ok (.invokevirtual 47, 3) := by decide +kernel
theorem dX2_comeTo_80 : decode cX2_comeTo 80 = .ok (.goto 3, 3) := by decide +kernel
theorem dX2_comeTo_83 : decode cX2_comeTo 83 = .ok (.return_, 1) := by decide +kernel
theorem dX2_changePace_0 : decode cX2_changePace 0 = .ok (.aload_n 0, 1) := by decide +kernel
theorem dX2_changePace_1 : decode cX2_changePace 1 = .ok (.iconst 0, 1) := by decide +kernel
theorem dX2_changePace_2 : decode cX2_changePace 2 = .ok (.bipush 9, 2) := by decide +kernel
theorem dX2_changePace_4 : decode cX2_changePace 4 = .ok (.aload_n 0, 1) := by decide +kernel
theorem dX2_changePace_5 : decode cX2_changePace 5 = .ok (.getfield 15, 3) := by decide +kernel
theorem dX2_changePace_8 : decode cX2_changePace 8 = .ok (.iload_n 1, 1) := by decide +kernel
theorem dX2_changePace_9 : decode cX2_changePace 9 = .ok (.iadd, 1) := by decide +kernel
theorem dX2_changePace_10 : decode cX2_changePace 10 = .ok (.invokestatic 63, 3) := by decide +kernel
theorem dX2_changePace_13 : decode cX2_changePace 13 = .ok (.invokestatic 57, 3) := by decide +kernel
theorem dX2_changePace_16 : decode cX2_changePace 16 = .ok (.putfield 15, 3) := by decide +kernel
theorem dX2_changePace_19 : decode cX2_changePace 19 = .ok (.return_, 1) := by decide +kernel
theorem dX2_leanFurther_0 : decode cX2_leanFurther 0 = .ok (.aload_n 0, 1) := by decide +kernel
theorem dX2_leanFurther_1 : decode cX2_leanFurther 1 = .ok (.getfield 18, 3) := by decide +kernel
theorem dX2_leanFurther_4 : decode cX2_leanFurther 4 = .ok (.ifCond .ne 11, 3) := by decide +kernel
theorem dX2_leanFurther_7 : decode cX2_leanFurther 7 = .ok (.aload_n 0, 1) := by decide +kernel
theorem dX2_leanFurther_8 : decode cX2_leanFurther 8 = .ok (.iload_n 2, 1) := by decide +kernel
theorem dX2_leanFurther_9 : decode cX2_leanFurther 9 = .ok (.putfield 18, 3) := by decide +kernel
theorem dX2_leanFurther_12 : decode cX2_leanFurther 12 = .ok (.goto 26, 3) := by decide +kernel
theorem dX2_leanFurther_15 : decode cX2_leanFurther 15 = .ok (.aload_n 0, 1) := by decide +kernel
theorem dX2_leanFurther_16 : decode cX2_leanFurther 16 = .ok (.dup, 1) := by decide +kernel
theorem dX2_leanFurther_17 : decode cX2_leanFurther 17 = .ok (.getfield 18, 3) := by decide +kernel
theorem dX2_leanFurther_20 : decode cX2_leanFurther 20 = .ok (.aload_n 0, 1) := by decide +kernel
theorem dX2_leanFurther_21 : decode cX2_leanFurther 21 = .ok (.getfield 18, 3) := by decide +kernel
theorem dX2_leanFurther_24 : decode cX2_leanFurther 24 = .ok (.ifCond .le 7, 3) := by decide +kernel
theorem dX2_leanFurther_27 : decode cX2_leanFurther 27 = .ok (.iload_n 1, 1) := by decide +kernel
theorem dX2_leanFurther_28 : decode cX2_leanFurther 28 = .ok (.goto 6, 3) := by decide +kernel
theorem dX2_leanFurther_31 : decode cX2_leanFurther 31 = .ok (.iconst 0, 1) := by decide +kernel
theorem dX2_leanFurther_32 : decode cX2_leanFurther 32 = .ok (.iload_n 1, 1) := by decide +kernel
theorem dX2_leanFurther_33 : decode cX2_leanFurther 33 = .ok (.isub, 1) := by decide +kernel
theorem dX2_leanFurther_34 : decode cX2_leanFurther 34 = .ok (.iadd, 1) := by decide +kernel
theorem dX2_leanFurther_35 : decode cX2_leanFurther 35 = .ok (.putfield 18, 3) := by decide +kernel
theorem dX2_leanFurther_38 : decode cX2_leanFurther 38 = .ok (.return_, 1) := by decide +kernel
set_option maxRecDepth 20000 in
theorem ggX3_init_X2_init : GoodIn wsX3_init wsX2_init := goodIn_r _ [18, 19, 2, 3, 20, 21, 22, 23, 33, 34, 35, 36] (by decide +kernel) (by decide +kernel)
set_option maxRecDepth 20000 in
theorem gX3_init_X2_init_n23 : GoodIn wsX3_init (wsX2_init) := ggX3_init_X2_init
theorem dX3_init_0 : decode cX3_init 0 = .ok (.aload_n 0, 1) := by decide +kernel
theorem dX3_init_1 : decode cX3_init 1 = .ok (.invokespecial 3, 3) := by decide +kernel
theorem dX3_init_4 : decode cX3_init 4 = .ok (.aload_n 0, 1) := by decide +kernel
theorem dX3_init_5 : decode cX3_init 5 = .ok (.bipush 24, 2) := by decide +kernel
theorem dX3_init_7 : decode cX3_init 7 = .ok (.newarray .int, 2) := by decide +kernel
theorem dX3_init_9 : decode cX3_init 9 = .ok (.putfield 9, 3) := by decide +kernel
theorem dX3_init_12 : decode cX3_init 12 = .ok (.aload_n 0, 1) := by decide +kernel
theorem dX3_init_13 : decode cX3_init 13 = .ok (.iconst 5, 1) := by decide +kernel
theorem dX3_init_14 : decode cX3_init 14 = .ok (.newarray .int, 2) := by decide +kernel
theorem dX3_init_16 : decode cX3_init 16 = .ok (.putfield 15, 3) := by decide +kernel
theorem dX3_init_19 : decode cX3_init 19 = .ok (.aload_n 0, 1) := by decide +kernel
theorem dX3_init_20 : decode cX3_init 20 = .ok (.iconst 5, 1) := by decide +kernel
theorem dX3_init_21 : decode cX3_init 21 = .ok (.newarray .int, 2) := by decide +kernel
theorem dX3_init_23 : decode cX3_init 23 = .ok (.putfield 18, 3) := by decide +kernel
theorem dX3_init_26 : decode cX3_init 26 = .ok (.aload_n 0, 1) := by decide +kernel
theorem dX3_init_27 : decode cX3_init 27 = .ok (.new 21, 3) := by decide +kernel
theorem dX3_init_30 : decode cX3_init 30 = .ok (.dup, 1) := by decide +kernel
theorem dX3_init_31 : decode cX3_init 31 = .ok (.invokespecial 23, 3) := by decide +kernel
theorem dX3_init_34 : decode cX3_init 34 = .ok (.putfield 24, 3) := by decide +kernel
theorem dX3_init_37 : decode cX3_init 37 = .ok (.aload_n 0, 1) := by decide +kernel
theorem dX3_init_38 : decode cX3_init 38 = .ok (.iconst 0, 1) := by decide +kernel
theorem dX3_init_39 : decode cX3_init 39 = .ok (.putfield 28, 3) := by decide +kernel
theorem dX3_init_42 : decode cX3_init 42 = .ok (.aload_n 0, 1) := by decide +kernel
theorem dX3_init_43 : decode cX3_init 43 = .ok (.iconst 0, 1) := by decide +kernel
theorem dX3_init_44 : decode cX3_init 44 = .ok (.putfield 32, 3) := by decide +kernel
theorem dX3_init_47 : decode cX3_init 47 = .ok (.aload_n 0, 1) := by decide +kernel
theorem dX3_init_48 : decode cX3_init 48 = .ok (.iconst 0, 1) := by decide +kernel
theorem dX3_init_49 : decode cX3_init 49 = .ok (.putfield 35, 3) := by decide +kernel
theorem dX3_init_52 : decode cX3_init 52 = .ok (.aload_n 0, 1) := by decide +kernel
theorem dX3_init_53 : decode cX3_init 53 = .ok (.iconst 0, 1) := by decide +kernel
theorem dX3_init_54 : decode cX3_init 54 = .ok (.putfield 38, 3) := by decide +kernel
theorem dX3_init_57 : decode cX3_init 57 = .ok (.aload_n 0, 1) := by decide +kernel
theorem dX3_init_58 : decode cX3_init 58 = .ok (.iconst 0, 1) := by decide +kernel
theorem dX3_init_59 : decode cX3_init 59 = .ok (.putfield 41, 3) := by decide +kernel
theorem dX3_init_62 : decode cX3_init 62 = .ok (.return_, 1) := by decide +kernel
theorem dX3_isThere_0 : decode cX3_isThere 0 = .ok (.aload_n 0, 1) := by decide +kernel
theorem dX3_isThere_1 : decode cX3_isThere 1 = .ok (.getfield 28, 3) := by decide +kernel
theorem dX3_isThere_4 : decode cX3_isThere 4 = .ok (.ifCond .le 7, 3) := by decide +kernel
theorem dX3_isThere_7 : decode cX3_isThere 7 = .ok (.iconst 1, 1) := by decide +kernel
theorem dX3_isThere_8 : decode cX3_isThere 8 = .ok (.goto 4, 3) := by decide +kernel
theorem dX3_isThere_11 : decode cX3_isThere 11 = .ok (.iconst 0, 1) := by decide +kernel
theorem dX3_isThere_12 : decode cX3_isThere 12 = .ok (.ireturn, 1) := by decide +kernel
set_option maxRecDepth 20000 in
theorem ggX3_be_X2_be : GoodIn wsX3_be wsX2_be := goodIn_r _ [18, 19, 20, 21, 22, 32, 33, 34, 35] (by decide +kernel) (by decide +kernel)
set_option maxRecDepth 20000 in
theorem gX3_be_X2_be : GoodIn wsX3_be (wsV RX3 50 RX2 yX2_be wsX2_be) := goodIn_app (goodIn_of _ (by decide +kernel)) ggX3_be_X2_be
theorem dX3_be_0 : decode cX3_be 0 = .ok (.aload_n 1, 1) := by decide +kernel
theorem dX3_be_1 : decode cX3_be 1 = .ok (.getfield 9, 3) := by decide +kernel
theorem dX3_be_4 : decode cX3_be 4 = .ok (.iconst 0, 1) := by decide +kernel
theorem dX3_be_5 : decode cX3_be 5 = .ok (.aload_n 0, 1) := by decide +kernel
theorem dX3_be_6 : decode cX3_be 6 = .ok (.getfield 9, 3) := by decide +kernel
theorem dX3_be_9 : decode cX3_be 9 = .ok (.iconst 0, 1) := by decide +kernel
theorem dX3_be_10 : decode cX3_be 10 = .ok (.bipush 24, 2) := by decide +kernel
theorem dX3_be_12 : decode cX3_be 12 = .ok (.invokestatic 44, 3) := by decide +kernel
theorem dX3_be_15 : decode cX3_be 15 = .ok (.aload_n 1, 1) := by decide +kernel
theorem dX3_be_16 : decode cX3_be 16 = .ok (.getfield 15, 3) := by decide +kernel
theorem dX3_be_19 : decode cX3_be 19 = .ok (.iconst 0, 1) := by decide +kernel
theorem dX3_be_20 : decode cX3_be 20 = .ok (.aload_n 0, 1) := by decide +kernel
theorem dX3_be_21 : decode cX3_be 21 = .ok (.getfield 15, 3) := by decide +kernel
theorem dX3_be_24 : decode cX3_be 24 = .ok (.iconst 0, 1) := by decide +kernel
theorem dX3_be_25 : decode cX3_be 25 = .ok (.iconst 5, 1) := by decide +kernel
theorem dX3_be_26 : decode cX3_be 26 = .ok (.invokestatic 44, 3) := by decide +kernel
theorem dX3_be_29 : decode cX3_be 29 = .ok (.aload_n 1, 1) := by decide +kernel
theorem dX3_be_30 : decode cX3_be 30 = .ok (.getfield 18, 3) := by decide +kernel
theorem dX3_be_33 : decode cX3_be 33 = .ok (.iconst 0, 1) := by decide +kernel
theorem dX3_be_34 : decode cX3_be 34 = .ok (.aload_n 0, 1) := by decide +kernel
theorem dX3_be_35 : decode cX3_be 35 = .ok (.getfield 18, 3) := by decide +kernel
theorem dX3_be_38 : decode cX3_be 38 = .ok (.iconst 0, 1) := by decide +kernel
theorem dX3_be_39 : decode cX3_be 39 = .ok (.iconst 5, 1) := by decide +kernel
theorem dX3_be_40 : decode cX3_be 40 = .ok (.invokestatic 44, 3) := by decide +kernel
theorem dX3_be_43 : decode cX3_be 43 = .ok (.aload_n 0, 1) := by decide +kernel
theorem dX3_be_44 : decode cX3_be 44 = .ok (.getfield 24, 3) := by decide +kernel
theorem dX3_be_47 : decode cX3_be 47 = .ok (.aload_n 1, 1) := by decide +kernel
theorem dX3_be_48 : decode cX3_be 48 = .ok (.getfield 24, 3) := by decide +kernel
theorem dX3_be_51 : decode cX3_be 51 = .ok (.invokevirtual 50, 3) := by decide +kernel
theorem dX3_be_54 : decode cX3_be 54 = .ok (.aload_n 0, 1) := by decide +kernel
theorem dX3_be_55 : decode cX3_be 55 = .ok (.aload_n 1, 1) := by decide +kernel
theorem dX3_be_56 : decode cX3_be 56 = .ok (.getfield 28, 3) := by decide +kernel
theorem dX3_be_59 : decode cX3_be 59 = .ok (.putfield 28, 3) := by decide +kernel
theorem dX3_be_62 : decode cX3_be 62 = .ok (.aload_n 0, 1) := by decide +kernel
theorem dX3_be_63 : decode cX3_be 63 = .ok (.aload_n 1, 1) := by decide +kernel
theorem dX3_be_64 : decode cX3_be 64 = .ok (.getfield 32, 3) := by decide +kernel
theorem dX3_be_67 : decode cX3_be 67 = .ok (.putfield 32, 3) := by decide +kernel
theorem dX3_be_70 : decode cX3_be 70 = .ok (.aload_n 0, 1) := by decide +kernel
theorem dX3_be_71 : decode cX3_be 71 = .ok (.aload_n 1, 1) := by decide +kernel
theorem dX3_be_72 : decode cX3_be 72 = .ok (.getfield 35, 3) := by decide +kernel
theorem dX3_be_75 : decode cX3_be 75 = .ok (.putfield 35, 3) := by decide +kernel
theorem dX3_be_78 : decode cX3_be 78 = .ok (.aload_n 0, 1) := by decide +kernel
theorem dX3_be_79 : decode cX3_be 79 = .ok (.aload_n 1, 1) := by decide +kernel
theorem dX3_be_80 : decode cX3_be 80 = .ok (.getfield 38, 3) := by decide +kernel
theorem dX3_be_83 : decode cX3_be 83 = .ok (.putfield 38, 3) := by decide +kernel
theorem dX3_be_86 : decode cX3_be 86 = .ok (.aload_n 0, 1) := by decide +kernel
theorem dX3_be_87 : decode cX3_be 87 = .ok (.aload_n 1, 1) := by decide +kernel
theorem dX3_be_88 : decode cX3_be 88 = .ok (.getfield 41, 3) := by decide +kernel
theorem dX3_be_91 : decode cX3_be 91 = .ok (.putfield 41, 3) := by decide +kernel
theorem dX3_be_94 : decode cX3_be 94 = .ok (.return_, 1) := by decide +kernel
set_option maxRecDepth 20000 in
theorem ggX3_kindAt_X7_isOut : GoodIn wsX3_kindAt wsX7_isOut := goodIn_r _ [5] (by decide +kernel) (by decide +kernel)
set_option maxRecDepth 20000 in
theorem gX3_kindAt_X7_isOut_n54 : GoodIn wsX3_kindAt (wsX7_isOut) := ggX3_kindAt_X7_isOut
theorem dX3_kindAt_0 : decode cX3_kindAt 0 = .ok (.iload_n 1, 1) := by decide +kernel
theorem dX3_kindAt_1 : decode cX3_kindAt 1 = .ok (.iconst 0, 1) := by decide +kernel
theorem dX3_kindAt_2 : decode cX3_kindAt 2 = .ok (.aload_n 0, 1) := by decide +kernel
theorem dX3_kindAt_3 : decode cX3_kindAt 3 = .ok (.getfield 32, 3) := by decide +kernel
theorem dX3_kindAt_6 : decode cX3_kindAt 6 = .ok (.iconst 1, 1) := by decide +kernel
theorem dX3_kindAt_7 : decode cX3_kindAt 7 = .ok (.isub, 1) := by decide +kernel
theorem dX3_kindAt_8 : decode cX3_kindAt 8 = .ok (.invokestatic 54, 3) := by decide +kernel
theorem dX3_kindAt_11 : decode cX3_kindAt 11 = .ok (.ifCond .eq 7, 3) := by decide +kernel
theorem dX3_kindAt_14 : decode cX3_kindAt 14 = .ok (.iconst 0, 1) := by decide +kernel
theorem dX3_kindAt_15 : decode cX3_kindAt 15 = .ok (.goto 9, 3) := by decide +kernel
theorem dX3_kindAt_18 : decode cX3_kindAt 18 = .ok (.aload_n 0, 1) := by decide +kernel
theorem dX3_kindAt_19 : decode cX3_kindAt 19 = .ok (.getfield 15, 3) := by decide +kernel
theorem dX3_kindAt_22 : decode cX3_kindAt 22 = .ok (.iload_n 1, 1) := by decide +kernel
theorem dX3_kindAt_23 : decode cX3_kindAt 23 = .ok (.iaload, 1) := by decide +kernel
theorem dX3_kindAt_24 : decode cX3_kindAt 24 = .ok (.ireturn, 1) := by decide +kernel
set_option maxRecDepth 20000 in
theorem ggX3_forceAt_X7_isOut : GoodIn wsX3_forceAt wsX7_isOut := goodIn_r _ [5] (by decide +kernel) (by decide +kernel)
set_option maxRecDepth 20000 in
theorem gX3_forceAt_X7_isOut_n54 : GoodIn wsX3_forceAt (wsX7_isOut) := ggX3_forceAt_X7_isOut
theorem dX3_forceAt_0 : decode cX3_forceAt 0 = .ok (.iload_n 1, 1) := by decide +kernel
theorem dX3_forceAt_1 : decode cX3_forceAt 1 = .ok (.iconst 0, 1) := by decide +kernel
theorem dX3_forceAt_2 : decode cX3_forceAt 2 = .ok (.aload_n 0, 1) := by decide +kernel
theorem dX3_forceAt_3 : decode cX3_forceAt 3 = .ok (.getfield 32, 3) := by decide +kernel
theorem dX3_forceAt_6 : decode cX3_forceAt 6 = .ok (.iconst 1, 1) := by decide +kernel
theorem dX3_forceAt_7 : decode cX3_forceAt 7 = .ok (.isub, 1) := by decide +kernel
theorem dX3_forceAt_8 : decode cX3_forceAt 8 = .ok (.invokestatic 54, 3) := by decide +kernel
theorem dX3_forceAt_11 : decode cX3_forceAt 11 = .ok (.ifCond .eq 7, 3) := by decide +kernel
theorem dX3_forceAt_14 : decode cX3_forceAt 14 = .ok (.iconst 0, 1) := by decide +kernel
theorem dX3_forceAt_15 : decode cX3_forceAt 15 = .ok (.goto 9, 3) := by decide +kernel
theorem dX3_forceAt_18 : decode cX3_forceAt 18 = .ok (.aload_n 0, 1) := by decide +kernel
theorem dX3_forceAt_19 : decode cX3_forceAt 19 = .ok (.getfield 18, 3) := by decide +kernel
theorem dX3_forceAt_22 : decode cX3_forceAt 22 = .ok (.iload_n 1, 1) := by decide +kernel
theorem dX3_forceAt_23 : decode cX3_forceAt 23 = .ok (.iaload, 1) := by decide +kernel
theorem dX3_forceAt_24 : decode cX3_forceAt 24 = .ok (.ireturn, 1) := by decide +kernel
set_option maxRecDepth 20000 in
theorem ggX4_init_X2_init : GoodIn wsX4_init wsX2_init := goodIn_r _ [15, 16, 2, 3, 17, 18, 19, 20, 26, 27, 28, 29] (by decide +kernel) (by decide +kernel)
set_option maxRecDepth 20000 in
theorem gX4_init_X2_init_n17 : GoodIn wsX4_init (wsX2_init) := ggX4_init_X2_init
theorem dX4_init_0 : decode cX4_init 0 = .ok (.aload_n 0, 1) := by decide +kernel
theorem dX4_init_1 : decode cX4_init 1 = .ok (.invokespecial 5, 3) := by decide +kernel
theorem dX4_init_4 : decode cX4_init 4 = .ok (.aload_n 0, 1) := by decide +kernel
theorem dX4_init_5 : decode cX4_init 5 = .ok (.sipush 2376, 3) := by decide +kernel
theorem dX4_init_8 : decode cX4_init 8 = .ok (.newarray .int, 2) := by decide +kernel
theorem dX4_init_10 : decode cX4_init 10 = .ok (.putfield 11, 3) := by decide +kernel
theorem dX4_init_13 : decode cX4_init 13 = .ok (.aload_n 0, 1) := by decide +kernel
theorem dX4_init_14 : decode cX4_init 14 = .ok (.new 15, 3) := by decide +kernel
theorem dX4_init_17 : decode cX4_init 17 = .ok (.dup, 1) := by decide +kernel
theorem dX4_init_18 : decode cX4_init 18 = .ok (.invokespecial 17, 3) := by decide +kernel
theorem dX4_init_21 : decode cX4_init 21 = .ok (.putfield 18, 3) := by decide +kernel
theorem dX4_init_24 : decode cX4_init 24 = .ok (.aload_n 0, 1) := by decide +kernel
theorem dX4_init_25 : decode cX4_init 25 = .ok (.iconst 0, 1) := by decide +kernel
theorem dX4_init_26 : decode cX4_init 26 = .ok (.putfield 22, 3) := by decide +kernel
theorem dX4_init_29 : decode cX4_init 29 = .ok (.aload_n 0, 1) := by decide +kernel
theorem dX4_init_30 : decode cX4_init 30 = .ok (.ldc 26, 2) := by decide +kernel
theorem dX4_init_32 : decode cX4_init 32 = .ok (.putfield 27, 3) := by decide +kernel
theorem dX4_init_35 : decode cX4_init 35 = .ok (.aload_n 0, 1) := by decide +kernel
theorem dX4_init_36 : decode cX4_init 36 = .ok (.iconst 0, 1) := by decide +kernel
theorem dX4_init_37 : decode cX4_init 37 = .ok (.putfield 30, 3) := by decide +kernel
theorem dX4_init_40 : decode cX4_init 40 = .ok (.return_, 1) := by decide +kernel
theorem dX4_cost_0 : decode cX4_cost 0 = .ok (.aload_n 0, 1) := by decide +kernel
theorem dX4_cost_1 : decode cX4_cost 1 = .ok (.getfield 27, 3) := by decide +kernel
theorem dX4_cost_4 : decode cX4_cost 4 = .ok (.bipush 8, 2) := by decide +kernel
theorem dX4_cost_6 : decode cX4_cost 6 = .ok (.idiv, 1) := by decide +kernel
theorem dX4_cost_7 : decode cX4_cost 7 = .ok (.ireturn, 1) := by decide +kernel
theorem dX4_first_0 : decode cX4_first 0 = .ok (.aload_n 0, 1) := by decide +kernel
theorem dX4_first_1 : decode cX4_first 1 = .ok (.getfield 27, 3) := by decide +kernel
theorem dX4_first_4 : decode cX4_first 4 = .ok (.bipush 8, 2) := by decide +kernel
theorem dX4_first_6 : decode cX4_first 6 = .ok (.irem, 1) := by decide +kernel
theorem dX4_first_7 : decode cX4_first 7 = .ok (.ifCond .ne 8, 3) := by decide +kernel
theorem dX4_first_10 : decode cX4_first 10 = .ok (.ldc 33, 2) := by decide +kernel
theorem dX4_first_12 : decode cX4_first 12 = .ok (.goto 12, 3) := by decide +kernel
theorem dX4_first_15 : decode cX4_first 15 = .ok (.aload_n 0, 1) := by decide +kernel
theorem dX4_first_16 : decode cX4_first 16 = .ok (.getfield 27, 3) := by decide +kernel
theorem dX4_first_19 : decode cX4_first 19 = .ok (.bipush 8, 2) := by decide +kernel
theorem dX4_first_21 : decode cX4_first 21 = .ok (.irem, 1) := by decide +kernel
theorem dX4_first_22 : decode cX4_first 22 = .ok (.iconst 1, 1) := by decide +kernel
theorem dX4_first_23 : decode cX4_first 23 = .ok (.isub, 1) := by decide +kernel
theorem dX4_first_24 : decode cX4_first 24 = .ok (.ireturn, 1) := by decide +kernel
set_option maxRecDepth 20000 in
theorem ggX4_walk_J7_fill_53178 : GoodIn wsX4_walk wsJ7_fill_53178 := goodIn_r _ [15] (by decide +kernel) (by decide +kernel)
set_option maxRecDepth 20000 in
theorem gX4_walk_J7_fill_53178 : GoodIn wsX4_walk (va_wsS RX4 37 yJ7_fill_53178 wsJ7_fill_53178) := goodIn_app (goodIn_of _ (by decide +kernel)) ggX4_walk_J7_fill_53178
set_option maxRecDepth 20000 in
theorem ggX4_walk_X4_placeOf : GoodIn wsX4_walk wsX4_placeOf := goodIn_r _ [19, 20, 21, 22, 86, 87, 88, 89] (by decide +kernel) (by decide +kernel)
set_option maxRecDepth 20000 in
theorem gX4_walk_X4_placeOf : GoodIn wsX4_walk (va_wsS RX4 43 yX4_placeOf wsX4_placeOf) := goodIn_app (goodIn_of _ (by decide +kernel)) ggX4_walk_X4_placeOf
set_option maxRecDepth 20000 in
theorem ggX4_walk_X4_reach : GoodIn wsX4_walk wsX4_reach := goodIn_r _ [26, 5, 27, 28, 9, 29, 30, 31, 32, 90, 91, 92, 93, 94] (by decide +kernel) (by decide +kernel)
set_option maxRecDepth 20000 in
theorem gX4_walk_X4_reach : GoodIn wsX4_walk (wsV RX4 47 RX4 yX4_reach wsX4_reach) := goodIn_app (goodIn_of _ (by decide +kernel)) ggX4_walk_X4_reach
set_option maxRecDepth 20000 in
theorem ggX4_walk_X4_spread : GoodIn wsX4_walk wsX4_spread := goodIn_r _ [36, 37, 38, 5, 6, 1, 3, 27, 28, 9, 29, 4, 20, 39, 40, 41, 42, 43, 44, 45, 46, 47, 48, 49, 50, 51, 52, 53, 54, 30, 31, 32, 55, 56, 57, 58, 59, 60, 61, 62, 63, 64, 65, 66, 67, 68, 69, 70, 71, 72, 8, 10, 73, 74, 75, 76, 77, 78, 79, 80, 81, 82, 83, 84, 85, 16, 17, 18, 19, 21, 22, 23, 24, 25, 26, 95, 96, 97, 98, 99, 100, 101, 102, 103, 90, 91, 92, 93, 94, 86, 87, 88, 89] (by decide +kernel) (by decide +kernel)
set_option maxRecDepth 20000 in
theorem gX4_walk_X4_spread : GoodIn wsX4_walk (wsV RX4 62 RX4 yX4_spread wsX4_spread) := goodIn_app (goodIn_of _ (by decide +kernel)) ggX4_walk_X4_spread
theorem dX4_walk_0 : decode cX4_walk 0 = .ok (.aload_n 0, 1) := by decide +kernel
theorem dX4_walk_1 : decode cX4_walk 1 = .ok (.aload_n 2, 1) := by decide +kernel
theorem dX4_walk_2 : decode cX4_walk 2 = .ok (.getfield 34, 3) := by decide +kernel
theorem dX4_walk_5 : decode cX4_walk 5 = .ok (.iconst 2, 1) := by decide +kernel
theorem dX4_walk_6 : decode cX4_walk 6 = .ok (.if_icmp .ne 7, 3) := by decide +kernel
theorem dX4_walk_9 : decode cX4_walk 9 = .ok (.iconst 0, 1) := by decide +kernel
theorem dX4_walk_10 : decode cX4_walk 10 = .ok (.goto 5, 3) := by decide +kernel
theorem dX4_walk_13 : decode cX4_walk 13 = .ok (.ldc 26, 2) := by decide +kernel
theorem dX4_walk_15 : decode cX4_walk 15 = .ok (.putfield 27, 3) := by decide +kernel
theorem dX4_walk_18 : decode cX4_walk 18 = .ok (.aload_n 0, 1) := by decide +kernel
theorem dX4_walk_19 : decode cX4_walk 19 = .ok (.iconst 0, 1) := by decide +kernel
theorem dX4_walk_20 : decode cX4_walk 20 = .ok (.putfield 30, 3) := by decide +kernel
theorem dX4_walk_23 : decode cX4_walk 23 = .ok (.aload_n 2, 1) := by decide +kernel
theorem dX4_walk_24 : decode cX4_walk 24 = .ok (.getfield 34, 3) := by decide +kernel
theorem dX4_walk_27 : decode cX4_walk 27 = .ok (.ifCond .eq 4, 3) := by decide +kernel
theorem dX4_walk_30 : decode cX4_walk 30 = .ok (.return_, 1) := by decide +kernel
theorem dX4_walk_31 : decode cX4_walk 31 = .ok (.aload_n 0, 1) := by decide +kernel
theorem dX4_walk_32 : decode cX4_walk 32 = .ok (.getfield 11, 3) := by decide +kernel
theorem dX4_walk_35 : decode cX4_walk 35 = .ok (.ldc 26, 2) := by decide +kernel
theorem dX4_walk_37 : decode cX4_walk 37 = .ok (.invokestatic 37, 3) := by decide +kernel
theorem dX4_walk_40 : decode cX4_walk 40 = .ok (.aload_n 0, 1) := by decide +kernel
theorem dX4_walk_41 : decode cX4_walk 41 = .ok (.aload_n 2, 1) := by decide +kernel
theorem dX4_walk_42 : decode cX4_walk 42 = .ok (.invokestatic 43, 3) := by decide +kernel
theorem dX4_walk_45 : decode cX4_walk 45 = .ok (.putfield 22, 3) := by decide +kernel
theorem dX4_walk_48 : decode cX4_walk 48 = .ok (.aload_n 0, 1) := by decide +kernel
theorem dX4_walk_49 : decode cX4_walk 49 = .ok (.aload_n 0, 1) := by decide +kernel
theorem dX4_walk_50 : decode cX4_walk 50 = .ok (.getfield 22, 3) := by decide +kernel
theorem dX4_walk_53 : decode cX4_walk 53 = .ok (.iconst 0, 1) := by decide +kernel
theorem dX4_walk_54 : decode cX4_walk 54 = .ok (.invokevirtual 47, 3) := by decide +kernel
theorem dX4_walk_57 : decode cX4_walk 57 = .ok (.iconst 0, 1) := by decide +kernel
theorem dX4_walk_58 : decode cX4_walk 58 = .ok (.aload_n 0, 1) := by decide +kernel
theorem dX4_walk_59 : decode cX4_walk 59 = .ok (.getfield 22, 3) := by decide +kernel
theorem dX4_walk_62 : decode cX4_walk 62 = .ok (.invokestatic 51, 3) := by decide +kernel
theorem dX4_walk_65 : decode cX4_walk 65 = .ok (.istore 6, 2) := by decide +kernel
theorem dX4_walk_67 : decode cX4_walk 67 = .ok (.iload 6, 2) := by decide +kernel
theorem dX4_walk_69 : decode cX4_walk 69 = .ok (.aload_n 1, 1) := by decide +kernel
theorem dX4_walk_70 : decode cX4_walk 70 = .ok (.getfield 57, 3) := by decide +kernel
theorem dX4_walk_73 : decode cX4_walk 73 = .ok (.bipush 99, 2) := by decide +kernel
theorem dX4_walk_75 : decode cX4_walk 75 = .ok (.imul, 1) := by decide +kernel
theorem dX4_walk_76 : decode cX4_walk 76 = .ok (.if_icmp .ge 34, 3) := by decide +kernel
theorem dX4_walk_79 : decode cX4_walk 79 = .ok (.aload_n 0, 1) := by decide +kernel
theorem dX4_walk_80 : decode cX4_walk 80 = .ok (.getfield 11, 3) := by decide +kernel
theorem dX4_walk_83 : decode cX4_walk 83 = .ok (.iload 6, 2) := by decide +kernel
theorem dX4_walk_85 : decode cX4_walk 85 = .ok (.iaload, 1) := by decide +kernel
theorem dX4_walk_86 : decode cX4_walk 86 = .ok (.iload 5, 2) := by decide +kernel
theorem dX4_walk_88 : decode cX4_walk 88 = .ok (.bipush 8, 2) := by decide +kernel
theorem dX4_walk_90 : decode cX4_walk 90 = .ok (.imul, 1) := by decide +kernel
theorem dX4_walk_91 : decode cX4_walk 91 = .ok (.if_icmp .ge 13, 3) := by decide +kernel
theorem dX4_walk_94 : decode cX4_walk 94 = .ok (.aload_n 0, 1) := by decide +kernel
theorem dX4_walk_95 : decode cX4_walk 95 = .ok (.aload_n 1, 1) := by decide +kernel
theorem dX4_walk_96 : decode cX4_walk 96 = .ok (.iload 6, 2) := by decide +kernel
theorem dX4_walk_98 : decode cX4_walk 98 = .ok (.iload_n 3, 1) := by decide +kernel
theorem dX4_walk_99 : decode cX4_walk 99 = .ok (.iload 4, 2) := by decide +kernel
theorem dX4_walk_101 : decode cX4_walk 101 = .ok (.invokevirtual 62, 3) := by decide +kernel
theorem dX4_walk_104 : decode cX4_walk 104 = .ok (.iinc 6 1, 3) := by decide +kernel
theorem dX4_walk_107 : decode cX4_walk 107 = .ok (.goto (-40), 3) := by decide +kernel
theorem dX4_walk_110 : decode cX4_walk 110 = .ok (.return_, 1) := by decide +kernel
set_option maxRecDepth 20000 in
theorem ggX4_spread_X2_stand : GoodIn wsX4_spread wsX2_stand := goodIn_r _ [17, 18, 19, 20, 21, 89, 90, 91, 92] (by decide +kernel) (by decide +kernel)
set_option maxRecDepth 20000 in
theorem gX4_spread_X2_stand : GoodIn wsX4_spread (wsV RX4 69 RX2 yX2_stand wsX2_stand) := goodIn_app (goodIn_of _ (by decide +kernel)) ggX4_spread_X2_stand
set_option maxRecDepth 20000 in
theorem ggX4_spread_X3_kindAt : GoodIn wsX4_spread wsX3_kindAt := goodIn_r _ [26, 27, 28, 29, 30, 31, 75, 76, 77, 78, 79, 80, 81, 82, 83] (by decide +kernel) (by decide +kernel)
set_option maxRecDepth 20000 in
theorem gX4_spread_X3_kindAt : GoodIn wsX4_spread (wsV RX4 73 RX3 yX3_kindAt wsX3_kindAt) := goodIn_app (goodIn_of _ (by decide +kernel)) ggX4_spread_X3_kindAt
set_option maxRecDepth 20000 in
theorem ggX4_spread_X3_forceAt : GoodIn wsX4_spread wsX3_forceAt := goodIn_r _ [35, 27, 36, 29, 30, 31, 75, 76, 77, 78, 79, 80, 81, 82, 83] (by decide +kernel) (by decide +kernel)
set_option maxRecDepth 20000 in
theorem gX4_spread_X3_forceAt : GoodIn wsX4_spread (wsV RX4 77 RX3 yX3_forceAt wsX3_forceAt) := goodIn_app (goodIn_of _ (by decide +kernel)) ggX4_spread_X3_forceAt
set_option maxRecDepth 20000 in
theorem ggX4_spread_X2_pass : GoodIn wsX4_spread wsX2_pass := goodIn_r _ [40, 21, 18, 19, 41, 42, 43, 20, 44, 45, 46, 47, 16, 48, 49, 50, 9, 51, 52, 8, 10, 53, 54, 55, 56, 57, 58, 59, 60, 61, 62, 63, 64, 29, 30, 31, 89, 90, 91, 92, 75, 76, 77, 78, 79, 80, 81, 82, 83] (by decide +kernel) (by decide +kernel)
set_option maxRecDepth 20000 in
theorem gX4_spread_X2_pass : GoodIn wsX4_spread (wsV RX4 80 RX2 yX2_pass wsX2_pass) := goodIn_app (goodIn_of _ (by decide +kernel)) ggX4_spread_X2_pass
set_option maxRecDepth 20000 in
theorem ggX4_spread_X4_placeOf : GoodIn wsX4_spread wsX4_placeOf := goodIn_r _ [68, 12, 69, 70, 89, 90, 91, 92] (by decide +kernel) (by decide +kernel)
set_option maxRecDepth 20000 in
theorem gX4_spread_X4_placeOf : GoodIn wsX4_spread (va_wsS RX4 43 yX4_placeOf wsX4_placeOf) := goodIn_app (goodIn_of _ (by decide +kernel)) ggX4_spread_X4_placeOf
set_option maxRecDepth 20000 in
theorem ggX4_spread_X4_reach : GoodIn wsX4_spread wsX4_reach := goodIn_r _ [74, 3, 7, 8, 9, 10, 29, 30, 31, 84, 85, 86, 87, 88] (by decide +kernel) (by decide +kernel)
set_option maxRecDepth 20000 in
theorem gX4_spread_X4_reach : GoodIn wsX4_spread (wsV RX4 47 RX4 yX4_reach wsX4_reach) := goodIn_app (goodIn_of _ (by decide +kernel)) ggX4_spread_X4_reach
theorem dX4_spread_0 : decode cX4_spread 0 = .ok (.iconst (-1), 1) := by decide +kernel
theorem dX4_spread_1 : decode cX4_spread 1 = .ok (.istore 5, 2) := by decide +kernel
theorem dX4_spread_3 : decode cX4_spread 3 = .ok (.iload 5, 2) := by decide +kernel
theorem dX4_spread_5 : decode cX4_spread 5 = .ok (.aload_n 1, 1) := by decide +kernel
theorem dX4_spread_6 : decode cX4_spread 6 = .ok (.getfield 66, 3) := by decide +kernel
theorem dX4_spread_9 : decode cX4_spread 9 = .ok (.if_icmp .ge 169, 3) := by decide +kernel
theorem dX4_spread_12 : decode cX4_spread 12 = .ok (.aload_n 0, 1) := by decide +kernel
theorem dX4_spread_13 : decode cX4_spread 13 = .ok (.getfield 18, 3) := by decide +kernel
theorem dX4_spread_16 : decode cX4_spread 16 = .ok (.iload_n 2, 1) := by decide +kernel
theorem dX4_spread_17 : decode cX4_spread 17 = .ok (.bipush 99, 2) := by decide +kernel
theorem dX4_spread_19 : decode cX4_spread 19 = .ok (.idiv, 1) := by decide +kernel
theorem dX4_spread_20 : decode cX4_spread 20 = .ok (.iload_n 2, 1) := by decide +kernel
theorem dX4_spread_21 : decode cX4_spread 21 = .ok (.bipush 99, 2) := by decide +kernel
theorem dX4_spread_23 : decode cX4_spread 23 = .ok (.irem, 1) := by decide +kernel
theorem dX4_spread_24 : decode cX4_spread 24 = .ok (.bipush 11, 2) := by decide +kernel
theorem dX4_spread_26 : decode cX4_spread 26 = .ok (.idiv, 1) := by decide +kernel
theorem dX4_spread_27 : decode cX4_spread 27 = .ok (.iconst 1, 1) := by decide +kernel
theorem dX4_spread_28 : decode cX4_spread 28 = .ok (.iadd, 1) := by decide +kernel
theorem dX4_spread_29 : decode cX4_spread 29 = .ok (.iload_n 2, 1) := by decide +kernel
theorem dX4_spread_30 : decode cX4_spread 30 = .ok (.bipush 11, 2) := by decide +kernel
theorem dX4_spread_32 : decode cX4_spread 32 = .ok (.irem, 1) := by decide +kernel
theorem dX4_spread_33 : decode cX4_spread 33 = .ok (.iconst 5, 1) := by decide +kernel
theorem dX4_spread_34 : decode cX4_spread 34 = .ok (.isub, 1) := by decide +kernel
theorem dX4_spread_35 : decode cX4_spread 35 = .ok (.invokevirtual 69, 3) := by decide +kernel
theorem dX4_spread_38 : decode cX4_spread 38 = .ok (.aload_n 0, 1) := by decide +kernel
theorem dX4_spread_39 : decode cX4_spread 39 = .ok (.getfield 18, 3) := by decide +kernel
theorem dX4_spread_42 : decode cX4_spread 42 = .ok (.aload_n 1, 1) := by decide +kernel
theorem dX4_spread_43 : decode cX4_spread 43 = .ok (.aload_n 1, 1) := by decide +kernel
theorem dX4_spread_44 : decode cX4_spread 44 = .ok (.iload 5, 2) := by decide +kernel
theorem dX4_spread_46 : decode cX4_spread 46 = .ok (.invokevirtual 73, 3) := by decide +kernel
theorem dX4_spread_49 : decode cX4_spread 49 = .ok (.aload_n 1, 1) := by decide +kernel
theorem dX4_spread_50 : decode cX4_spread 50 = .ok (.iload 5, 2) := by decide +kernel
theorem dX4_spread_52 : decode cX4_spread 52 = .ok (.invokevirtual 77, 3) := by decide +kernel
theorem dX4_spread_55 : decode cX4_spread 55 = .ok (.invokevirtual 80, 3) := by decide +kernel
theorem dX4_spread_58 : decode cX4_spread 58 = .ok (.aload_n 0, 1) := by decide +kernel
theorem dX4_spread_59 : decode cX4_spread 59 = .ok (.getfield 11, 3) := by decide +kernel
theorem dX4_spread_62 : decode cX4_spread 62 = .ok (.iload_n 2, 1) := by decide +kernel
theorem dX4_spread_63 : decode cX4_spread 63 = .ok (.iaload, 1) := by decide +kernel
theorem dX4_spread_64 : decode cX4_spread 64 = .ok (.iload 4, 2) := by decide +kernel
theorem dX4_spread_66 : decode cX4_spread 66 = .ok (.iload 5, 2) := by decide +kernel
theorem dX4_spread_68 : decode cX4_spread 68 = .ok (.ifCond .ge 7, 3) := by decide +kernel
theorem dX4_spread_71 : decode cX4_spread 71 = .ok (.iconst 0, 1) := by decide +kernel
theorem dX4_spread_72 : decode cX4_spread 72 = .ok (.goto 4, 3) := by decide +kernel
theorem dX4_spread_75 : decode cX4_spread 75 = .ok (.iload_n 3, 1) := by decide +kernel
theorem dX4_spread_76 : decode cX4_spread 76 = .ok (.iadd, 1) := by decide +kernel
theorem dX4_spread_77 : decode cX4_spread 77 = .ok (.bipush 8, 2) := by decide +kernel
theorem dX4_spread_79 : decode cX4_spread 79 = .ok (.imul, 1) := by decide +kernel
theorem dX4_spread_80 : decode cX4_spread 80 = .ok (.iadd, 1) := by decide +kernel
theorem dX4_spread_81 : decode cX4_spread 81 = .ok (.istore 6, 2) := by decide +kernel
theorem dX4_spread_83 : decode cX4_spread 83 = .ok (.iload_n 2, 1) := by decide +kernel
theorem dX4_spread_84 : decode cX4_spread 84 = .ok (.aload_n 0, 1) := by decide +kernel
theorem dX4_spread_85 : decode cX4_spread 85 = .ok (.getfield 22, 3) := by decide +kernel
theorem dX4_spread_88 : decode cX4_spread 88 = .ok (.if_icmp .ne 12, 3) := by decide +kernel
theorem dX4_spread_91 : decode cX4_spread 91 = .ok (.iload 6, 2) := by decide +kernel
theorem dX4_spread_93 : decode cX4_spread 93 = .ok (.iload 5, 2) := by decide +kernel
theorem dX4_spread_95 : decode cX4_spread 95 = .ok (.iconst 1, 1) := by decide +kernel
theorem dX4_spread_96 : decode cX4_spread 96 = .ok (.iadd, 1) := by decide +kernel
theorem dX4_spread_97 : decode cX4_spread 97 = .ok (.iadd, 1) := by decide +kernel
theorem dX4_spread_98 : decode cX4_spread 98 = .ok (.istore 6, 2) := by decide +kernel
theorem dX4_spread_100 : decode cX4_spread 100 = .ok (.aload_n 0, 1) := by decide +kernel
theorem dX4_spread_101 : decode cX4_spread 101 = .ok (.getfield 18, 3) := by decide +kernel
theorem dX4_spread_104 : decode cX4_spread 104 = .ok (.getfield 34, 3) := by decide +kernel
theorem dX4_spread_107 : decode cX4_spread 107 = .ok (.iconst 2, 1) := by decide +kernel
theorem dX4_spread_108 : decode cX4_spread 108 = .ok (.if_icmp .ne 19, 3) := by decide +kernel
theorem dX4_spread_111 : decode cX4_spread 111 = .ok (.aload_n 0, 1) := by decide +kernel
theorem dX4_spread_112 : decode cX4_spread 112 = .ok (.aload_n 0, 1) := by decide +kernel
theorem dX4_spread_113 : decode cX4_spread 113 = .ok (.getfield 27, 3) := by decide +kernel
theorem dX4_spread_116 : decode cX4_spread 116 = .ok (.iload 6, 2) := by decide +kernel
theorem dX4_spread_118 : decode cX4_spread 118 = .ok (.invokestatic 84, 3) := by decide +kernel
theorem dX4_spread_121 : decode cX4_spread 121 = .ok (.putfield 27, 3) := by decide +kernel
theorem dX4_spread_124 : decode cX4_spread 124 = .ok (.goto 48, 3) := by decide +kernel
theorem dX4_spread_127 : decode cX4_spread 127 = .ok (.aload_n 0, 1) := by decide +kernel
theorem dX4_spread_128 : decode cX4_spread 128 = .ok (.getfield 18, 3) := by decide +kernel
theorem dX4_spread_131 : decode cX4_spread 131 = .ok (.getfield 34, 3) := by decide +kernel
theorem dX4_spread_134 : decode cX4_spread 134 = .ok (.iconst 1, 1) := by decide +kernel
theorem dX4_spread_135 : decode cX4_spread 135 = .ok (.if_icmp .ne 24, 3) := by decide +kernel
theorem dX4_spread_138 : decode cX4_spread 138 = .ok (.aload_n 0, 1) := by decide +kernel
theorem dX4_spread_139 : decode cX4_spread 139 = .ok (.dup, 1) := by decide +kernel
theorem dX4_spread_140 : decode cX4_spread 140 = .ok (.getfield 30, 3) := by decide +kernel
theorem dX4_spread_143 : decode cX4_spread 143 = .ok (.iconst 1, 1) := by decide +kernel
theorem dX4_spread_144 : decode cX4_spread 144 = .ok (.aload_n 0, 1) := by decide +kernel
theorem dX4_spread_145 : decode cX4_spread 145 = .ok (.getfield 18, 3) := by decide +kernel
theorem dX4_spread_148 : decode cX4_spread 148 = .ok (.getfield 87, 3) := by decide +kernel
theorem dX4_spread_151 : decode cX4_spread 151 = .ok (.ishl, 1) := by decide +kernel
theorem dX4_spread_152 : decode cX4_spread 152 = .ok (.ior, 1) := by decide +kernel
theorem dX4_spread_153 : decode cX4_spread 153 = .ok (.putfield 30, 3) := by decide +kernel
theorem dX4_spread_156 : decode cX4_spread 156 = .ok (.goto 16, 3) := by decide +kernel
theorem dX4_spread_159 : decode cX4_spread 159 = .ok (.aload_n 0, 1) := by decide +kernel
theorem dX4_spread_160 : decode cX4_spread 160 = .ok (.aload_n 0, 1) := by decide +kernel
theorem dX4_spread_161 : decode cX4_spread 161 = .ok (.getfield 18, 3) := by decide +kernel
theorem dX4_spread_164 : decode cX4_spread 164 = .ok (.invokestatic 43, 3) := by decide +kernel
theorem dX4_spread_167 : decode cX4_spread 167 = .ok (.iload 6, 2) := by decide +kernel
theorem dX4_spread_169 : decode cX4_spread 169 = .ok (.invokevirtual 47, 3) := by decide +kernel
theorem dX4_spread_172 : decode cX4_spread 172 = .ok (.iinc 5 1, 3) := by decide +kernel
theorem dX4_spread_175 : decode cX4_spread 175 = .ok (.goto (-172), 3) := by decide +kernel
theorem dX4_spread_178 : decode cX4_spread 178 = .ok (.return_, 1) := by decide +kernel
set_option maxRecDepth 20000 in
theorem ggX4_reach_X7_isOut : GoodIn wsX4_reach wsX7_isOut := goodIn_r _ [8] (by decide +kernel) (by decide +kernel)
set_option maxRecDepth 20000 in
theorem gX4_reach_X7_isOut_n90 : GoodIn wsX4_reach (wsX7_isOut) := ggX4_reach_X7_isOut
theorem dX4_reach_0 : decode cX4_reach 0 = .ok (.iload_n 1, 1) := by decide +kernel
theorem dX4_reach_1 : decode cX4_reach 1 = .ok (.iconst 0, 1) := by decide +kernel
theorem dX4_reach_2 : decode cX4_reach 2 = .ok (.aload_n 0, 1) := by decide +kernel
theorem dX4_reach_3 : decode cX4_reach 3 = .ok (.getfield 11, 3) := by decide +kernel
theorem dX4_reach_6 : decode cX4_reach 6 = .ok (.arraylength, 1) := by decide +kernel
theorem dX4_reach_7 : decode cX4_reach 7 = .ok (.iconst 1, 1) := by decide +kernel
theorem dX4_reach_8 : decode cX4_reach 8 = .ok (.isub, 1) := by decide +kernel
theorem dX4_reach_9 : decode cX4_reach 9 = .ok (.invokestatic 90, 3) := by decide +kernel
theorem dX4_reach_12 : decode cX4_reach 12 = .ok (.ifCond .ne 19, 3) := by decide +kernel
theorem dX4_reach_15 : decode cX4_reach 15 = .ok (.aload_n 0, 1) := by decide +kernel
theorem dX4_reach_16 : decode cX4_reach 16 = .ok (.getfield 11, 3) := by decide +kernel
theorem dX4_reach_19 : decode cX4_reach 19 = .ok (.iload_n 1, 1) := by decide +kernel
theorem dX4_reach_20 : decode cX4_reach 20 = .ok (.aload_n 0, 1) := by decide +kernel
theorem dX4_reach_21 : decode cX4_reach 21 = .ok (.getfield 11, 3) := by decide +kernel
theorem dX4_reach_24 : decode cX4_reach 24 = .ok (.iload_n 1, 1) := by decide +kernel
theorem dX4_reach_25 : decode cX4_reach 25 = .ok (.iaload, 1) := by decide +kernel
theorem dX4_reach_26 : decode cX4_reach 26 = .ok (.iload_n 2, 1) := by decide +kernel
theorem dX4_reach_27 : decode cX4_reach 27 = .ok (.invokestatic 84, 3) := by decide +kernel
theorem dX4_reach_30 : decode cX4_reach 30 = .ok (.iastore, 1) := by decide +kernel
theorem dX4_reach_31 : decode cX4_reach 31 = .ok (.return_, 1) := by decide +kernel
theorem dX4_placeOf_0 : decode cX4_placeOf 0 = .ok (.aload_n 0, 1) := by decide +kernel
theorem dX4_placeOf_1 : decode cX4_placeOf 1 = .ok (.getfield 87, 3) := by decide +kernel
theorem dX4_placeOf_4 : decode cX4_placeOf 4 = .ok (.bipush 99, 2) := by decide +kernel
theorem dX4_placeOf_6 : decode cX4_placeOf 6 = .ok (.imul, 1) := by decide +kernel
theorem dX4_placeOf_7 : decode cX4_placeOf 7 = .ok (.aload_n 0, 1) := by decide +kernel
theorem dX4_placeOf_8 : decode cX4_placeOf 8 = .ok (.getfield 94, 3) := by decide +kernel
theorem dX4_placeOf_11 : decode cX4_placeOf 11 = .ok (.iconst 1, 1) := by decide +kernel
theorem dX4_placeOf_12 : decode cX4_placeOf 12 = .ok (.isub, 1) := by decide +kernel
theorem dX4_placeOf_13 : decode cX4_placeOf 13 = .ok (.bipush 11, 2) := by decide +kernel
theorem dX4_placeOf_15 : decode cX4_placeOf 15 = .ok (.imul, 1) := by decide +kernel
theorem dX4_placeOf_16 : decode cX4_placeOf 16 = .ok (.iadd, 1) := by decide +kernel
theorem dX4_placeOf_17 : decode cX4_placeOf 17 = .ok (.aload_n 0, 1) := by decide +kernel
theorem dX4_placeOf_18 : decode cX4_placeOf 18 = .ok (.getfield 97, 3) := by decide +kernel
theorem dX4_placeOf_21 : decode cX4_placeOf 21 = .ok (.iadd, 1) := by decide +kernel
theorem dX4_placeOf_22 : decode cX4_placeOf 22 = .ok (.iconst 5, 1) := by decide +kernel
theorem dX4_placeOf_23 : decode cX4_placeOf 23 = .ok (.iadd, 1) := by decide +kernel
theorem dX4_placeOf_24 : decode cX4_placeOf 24 = .ok (.ireturn, 1) := by decide +kernel
theorem dX5_init_0 : decode cX5_init 0 = .ok (.aload_n 0, 1) := by decide +kernel
theorem dX5_init_1 : decode cX5_init 1 = .ok (.invokespecial 3, 3) := by decide +kernel
theorem dX5_init_4 : decode cX5_init 4 = .ok (.aload_n 0, 1) := by decide +kernel
theorem dX5_init_5 : decode cX5_init 5 = .ok (.bipush 40, 2) := by decide +kernel
theorem dX5_init_7 : decode cX5_init 7 = .ok (.newarray .int, 2) := by decide +kernel
theorem dX5_init_9 : decode cX5_init 9 = .ok (.putfield 9, 3) := by decide +kernel
theorem dX5_init_12 : decode cX5_init 12 = .ok (.aload_n 0, 1) := by decide +kernel
theorem dX5_init_13 : decode cX5_init 13 = .ok (.iconst (-1), 1) := by decide +kernel
theorem dX5_init_14 : decode cX5_init 14 = .ok (.putfield 15, 3) := by decide +kernel
theorem dX5_init_17 : decode cX5_init 17 = .ok (.aload_n 0, 1) := by decide +kernel
theorem dX5_init_18 : decode cX5_init 18 = .ok (.iconst 0, 1) := by decide +kernel
theorem dX5_init_19 : decode cX5_init 19 = .ok (.putfield 19, 3) := by decide +kernel
theorem dX5_init_22 : decode cX5_init 22 = .ok (.return_, 1) := by decide +kernel
theorem dX5_isMissing_0 : decode cX5_isMissing 0 = .ok (.aload_n 0, 1) := by decide +kernel
theorem dX5_isMissing_1 : decode cX5_isMissing 1 = .ok (.getfield 15, 3) := by decide +kernel
theorem dX5_isMissing_4 : decode cX5_isMissing 4 = .ok (.iconst (-1), 1) := by decide +kernel
theorem dX5_isMissing_5 : decode cX5_isMissing 5 = .ok (.if_icmp .ne 7, 3) := by decide +kernel
theorem dX5_isMissing_8 : decode cX5_isMissing 8 = .ok (.iconst 1, 1) := by decide +kernel
theorem dX5_isMissing_9 : decode cX5_isMissing 9 = .ok (.goto 4, 3) := by decide +kernel
theorem dX5_isMissing_12 : decode cX5_isMissing 12 = .ok (.iconst 0, 1) := by decide +kernel
theorem dX5_isMissing_13 : decode cX5_isMissing 13 = .ok (.ireturn, 1) := by decide +kernel
set_option maxRecDepth 20000 in
theorem ggX5_become_J7_fill_53178 : GoodIn wsX5_become wsJ7_fill_53178 := goodIn_r _ [7] (by decide +kernel) (by decide +kernel)
set_option maxRecDepth 20000 in
theorem gX5_become_J7_fill_53178 : GoodIn wsX5_become (va_wsS RX5 22 yJ7_fill_53178 wsJ7_fill_53178) := goodIn_app (goodIn_of _ (by decide +kernel)) ggX5_become_J7_fill_53178
theorem dX5_become_0 : decode cX5_become 0 = .ok (.aload_n 0, 1) := by decide +kernel
theorem dX5_become_1 : decode cX5_become 1 = .ok (.iload_n 1, 1) := by decide +kernel
theorem dX5_become_2 : decode cX5_become 2 = .ok (.putfield 15, 3) := by decide +kernel
theorem dX5_become_5 : decode cX5_become 5 = .ok (.aload_n 0, 1) := by decide +kernel
theorem dX5_become_6 : decode cX5_become 6 = .ok (.iload_n 2, 1) := by decide +kernel
theorem dX5_become_7 : decode cX5_become 7 = .ok (.putfield 19, 3) := by decide +kernel
theorem dX5_become_10 : decode cX5_become 10 = .ok (.aload_n 0, 1) := by decide +kernel
theorem dX5_become_11 : decode cX5_become 11 = .ok (.getfield 9, 3) := by decide +kernel
theorem dX5_become_14 : decode cX5_become 14 = .ok (.iconst 0, 1) := by decide +kernel
theorem dX5_become_15 : decode cX5_become 15 = .ok (.invokestatic 22, 3) := by decide +kernel
theorem dX5_become_18 : decode cX5_become 18 = .ok (.return_, 1) := by decide +kernel
theorem dX5_put_0 : decode cX5_put 0 = .ok (.aload_n 0, 1) := by decide +kernel
theorem dX5_put_1 : decode cX5_put 1 = .ok (.getfield 9, 3) := by decide +kernel
theorem dX5_put_4 : decode cX5_put 4 = .ok (.iload_n 1, 1) := by decide +kernel
theorem dX5_put_5 : decode cX5_put 5 = .ok (.aload_n 0, 1) := by decide +kernel
theorem dX5_put_6 : decode cX5_put 6 = .ok (.getfield 15, 3) := by decide +kernel
theorem dX5_put_9 : decode cX5_put 9 = .ok (.ifCond .ne 8, 3) := by decide +kernel
theorem dX5_put_12 : decode cX5_put 12 = .ok (.iload_n 2, 1) := by decide +kernel
theorem dX5_put_13 : decode cX5_put 13 = .ok (.i2b, 1) := by decide +kernel
theorem dX5_put_14 : decode cX5_put 14 = .ok (.goto 17, 3) := by decide +kernel
theorem dX5_put_17 : decode cX5_put 17 = .ok (.aload_n 0, 1) := by decide +kernel
theorem dX5_put_18 : decode cX5_put 18 = .ok (.getfield 15, 3) := by decide +kernel
theorem dX5_put_21 : decode cX5_put 21 = .ok (.iconst 1, 1) := by decide +kernel
theorem dX5_put_22 : decode cX5_put 22 = .ok (.if_icmp .ne 8, 3) := by decide +kernel
theorem dX5_put_25 : decode cX5_put 25 = .ok (.iload_n 2, 1) := by decide +kernel
theorem dX5_put_26 : decode cX5_put 26 = .ok (.i2s, 1) := by decide +kernel
theorem dX5_put_27 : decode cX5_put 27 = .ok (.goto 4, 3) := by decide +kernel
theorem dX5_put_30 : decode cX5_put 30 = .ok (.iload_n 2, 1) := by decide +kernel
theorem dX5_put_31 : decode cX5_put 31 = .ok (.iastore, 1) := by decide +kernel
theorem dX5_put_32 : decode cX5_put 32 = .ok (.aload_n 0, 1) := by decide +kernel
theorem dX5_put_33 : decode cX5_put 33 = .ok (.getfield 9, 3) := by decide +kernel
theorem dX5_put_36 : decode cX5_put 36 = .ok (.iload_n 1, 1) := by decide +kernel
theorem dX5_put_37 : decode cX5_put 37 = .ok (.iaload, 1) := by decide +kernel
theorem dX5_put_38 : decode cX5_put 38 = .ok (.ireturn, 1) := by decide +kernel
set_option maxRecDepth 20000 in
theorem ggX5_findingAt_X5_isMissing : GoodIn wsX5_findingAt wsX5_isMissing := goodIn_r _ [6, 7, 8, 9, 10] (by decide +kernel) (by decide +kernel)
set_option maxRecDepth 20000 in
theorem gX5_findingAt_X5_isMissing : GoodIn wsX5_findingAt (wsV RX5 28 RX5 yX5_isMissing wsX5_isMissing) := goodIn_app (goodIn_of _ (by decide +kernel)) ggX5_findingAt_X5_isMissing
theorem dX5_findingAt_0 : decode cX5_findingAt 0 = .ok (.aload_n 0, 1) := by decide +kernel
theorem dX5_findingAt_1 : decode cX5_findingAt 1 = .ok (.invokevirtual 28, 3) := by decide +kernel
theorem dX5_findingAt_4 : decode cX5_findingAt 4 = .ok (.ifCond .eq 5, 3) := by decide +kernel
theorem dX5_findingAt_7 : decode cX5_findingAt 7 = .ok (.iconst 1, 1) := by decide +kernel
theorem dX5_findingAt_8 : decode cX5_findingAt 8 = .ok (.ireturn, 1) := by decide +kernel
theorem dX5_findingAt_9 : decode cX5_findingAt 9 = .ok (.iload_n 1, 1) := by decide +kernel
theorem dX5_findingAt_10 : decode cX5_findingAt 10 = .ok (.ifCond .lt 17, 3) := by decide +kernel
theorem dX5_findingAt_13 : decode cX5_findingAt 13 = .ok (.iload_n 2, 1) := by decide +kernel
theorem dX5_findingAt_14 : decode cX5_findingAt 14 = .ok (.ifCond .lt 13, 3) := by decide +kernel
theorem dX5_findingAt_17 : decode cX5_findingAt 17 = .ok (.iload_n 1, 1) := by decide +kernel
theorem dX5_findingAt_18 : decode cX5_findingAt 18 = .ok (.aload_n 0, 1) := by decide +kernel
theorem dX5_findingAt_19 : decode cX5_findingAt 19 = .ok (.getfield 19, 3) := by decide +kernel
theorem dX5_findingAt_22 : decode cX5_findingAt 22 = .ok (.iload_n 2, 1) := by decide +kernel
theorem dX5_findingAt_23 : decode cX5_findingAt 23 = .ok (.isub, 1) := by decide +kernel
theorem dX5_findingAt_24 : decode cX5_findingAt 24 = .ok (.if_icmp .le 7, 3) := by decide +kernel
theorem dX5_findingAt_27 : decode cX5_findingAt 27 = .ok (.iconst 2, 1) := by decide +kernel
theorem dX5_findingAt_28 : decode cX5_findingAt 28 = .ok (.goto 4, 3) := by decide +kernel
theorem dX5_findingAt_31 : decode cX5_findingAt 31 = .ok (.iconst 0, 1) := by decide +kernel
theorem dX5_findingAt_32 : decode cX5_findingAt 32 = .ok (.ireturn, 1) := by decide +kernel
theorem dX6_init_0 : decode cX6_init 0 = .ok (.aload_n 0, 1) := by decide +kernel
theorem dX6_init_1 : decode cX6_init 1 = .ok (.invokespecial 3, 3) := by decide +kernel
theorem dX6_init_4 : decode cX6_init 4 = .ok (.aload_n 0, 1) := by decide +kernel
theorem dX6_init_5 : decode cX6_init 5 = .ok (.bipush 100, 2) := by decide +kernel
theorem dX6_init_7 : decode cX6_init 7 = .ok (.newarray .int, 2) := by decide +kernel
theorem dX6_init_9 : decode cX6_init 9 = .ok (.putfield 9, 3) := by decide +kernel
theorem dX6_init_12 : decode cX6_init 12 = .ok (.aload_n 0, 1) := by decide +kernel
theorem dX6_init_13 : decode cX6_init 13 = .ok (.iconst 0, 1) := by decide +kernel
theorem dX6_init_14 : decode cX6_init 14 = .ok (.putfield 15, 3) := by decide +kernel
theorem dX6_init_17 : decode cX6_init 17 = .ok (.aload_n 0, 1) := by decide +kernel
theorem dX6_init_18 : decode cX6_init 18 = .ok (.iconst 0, 1) := by decide +kernel
theorem dX6_init_19 : decode cX6_init 19 = .ok (.putfield 19, 3) := by decide +kernel
theorem dX6_init_22 : decode cX6_init 22 = .ok (.aload_n 0, 1) := by decide +kernel
theorem dX6_init_23 : decode cX6_init 23 = .ok (.iconst 0, 1) := by decide +kernel
theorem dX6_init_24 : decode cX6_init 24 = .ok (.putfield 22, 3) := by decide +kernel
theorem dX6_init_27 : decode cX6_init 27 = .ok (.return_, 1) := by decide +kernel
theorem dX6_add_0 : decode cX6_add 0 = .ok (.aload_n 0, 1) := by decide +kernel
theorem dX6_add_1 : decode cX6_add 1 = .ok (.getfield 15, 3) := by decide +kernel
theorem dX6_add_4 : decode cX6_add 4 = .ok (.bipush 100, 2) := by decide +kernel
theorem dX6_add_6 : decode cX6_add 6 = .ok (.if_icmp .lt 5, 3) := by decide +kernel
theorem dX6_add_9 : decode cX6_add 9 = .ok (.iconst 0, 1) := by decide +kernel
theorem dX6_add_10 : decode cX6_add 10 = .ok (.ireturn, 1) := by decide +kernel
theorem dX6_add_11 : decode cX6_add 11 = .ok (.aload_n 0, 1) := by decide +kernel
theorem dX6_add_12 : decode cX6_add 12 = .ok (.getfield 9, 3) := by decide +kernel
theorem dX6_add_15 : decode cX6_add 15 = .ok (.aload_n 0, 1) := by decide +kernel
theorem dX6_add_16 : decode cX6_add 16 = .ok (.getfield 15, 3) := by decide +kernel
theorem dX6_add_19 : decode cX6_add 19 = .ok (.iload_n 1, 1) := by decide +kernel
theorem dX6_add_20 : decode cX6_add 20 = .ok (.iastore, 1) := by decide +kernel
theorem dX6_add_21 : decode cX6_add 21 = .ok (.aload_n 0, 1) := by decide +kernel
theorem dX6_add_22 : decode cX6_add 22 = .ok (.dup, 1) := by decide +kernel
theorem dX6_add_23 : decode cX6_add 23 = .ok (.getfield 15, 3) := by decide +kernel
theorem dX6_add_26 : decode cX6_add 26 = .ok (.iconst 1, 1) := by decide +kernel
theorem dX6_add_27 : decode cX6_add 27 = .ok (.iadd, 1) := by decide +kernel
theorem dX6_add_28 : decode cX6_add 28 = .ok (.putfield 15, 3) := by decide +kernel
theorem dX6_add_31 : decode cX6_add 31 = .ok (.iconst 1, 1) := by decide +kernel
theorem dX6_add_32 : decode cX6_add 32 = .ok (.ireturn, 1) := by decide +kernel
theorem dX6_clear_0 : decode cX6_clear 0 = .ok (.aload_n 0, 1) := by decide +kernel
theorem dX6_clear_1 : decode cX6_clear 1 = .ok (.iconst 0, 1) := by decide +kernel
theorem dX6_clear_2 : decode cX6_clear 2 = .ok (.putfield 15, 3) := by decide +kernel
theorem dX6_clear_5 : decode cX6_clear 5 = .ok (.return_, 1) := by decide +kernel
set_option maxRecDepth 20000 in
theorem ggX6_readInto_X6_readLaw : GoodIn wsX6_readInto wsX6_readLaw := goodIn_r _ [7, 8, 9, 10, 11, 12, 13, 14, 6, 15, 2, 1, 16, 17, 18, 19, 20, 21, 22, 23, 24, 25, 26, 27, 28, 29, 30, 31, 32, 33, 34, 35, 36, 37, 65, 66, 67, 68, 69, 70, 71, 72, 73, 61, 62, 63, 64, 74, 75, 76, 77] (by decide +kernel) (by decide +kernel)
set_option maxRecDepth 20000 in
theorem gX6_readInto_X6_readLaw : GoodIn wsX6_readInto (wsV RX6 25 RX6 yX6_readLaw wsX6_readLaw) := goodIn_app (goodIn_of _ (by decide +kernel)) ggX6_readInto_X6_readLaw
set_option maxRecDepth 20000 in
theorem ggX6_readInto_X6_readGrounds : GoodIn wsX6_readInto wsX6_readGrounds := goodIn_r _ [41, 42, 43, 2, 44, 1, 12, 13, 14, 6, 15, 16, 17, 18, 19, 20, 21, 45, 46, 47, 48, 65, 66, 67, 68, 69, 70, 71, 72, 73, 61, 62, 63, 64] (by decide +kernel) (by decide +kernel)
set_option maxRecDepth 20000 in
theorem gX6_readInto_X6_readGrounds : GoodIn wsX6_readInto (wsV RX6 29 RX6 yX6_readGrounds wsX6_readGrounds) := goodIn_app (goodIn_of _ (by decide +kernel)) ggX6_readInto_X6_readGrounds
set_option maxRecDepth 20000 in
theorem ggX6_readInto_X6_readTaps : GoodIn wsX6_readInto wsX6_readTaps := goodIn_r _ [52, 53, 2, 1, 16, 54, 55, 56, 6, 57, 58, 59, 60, 45, 46, 47, 48, 17, 18, 19, 20, 21, 22, 23, 24, 25, 26, 27, 28, 12, 13, 14, 15, 65, 66, 67, 68, 69, 70, 71, 72, 73, 61, 62, 63, 64] (by decide +kernel) (by decide +kernel)
set_option maxRecDepth 20000 in
theorem gX6_readInto_X6_readTaps : GoodIn wsX6_readInto (wsV RX6 32 RX6 yX6_readTaps wsX6_readTaps) := goodIn_app (goodIn_of _ (by decide +kernel)) ggX6_readInto_X6_readTaps
theorem dX6_readInto_0 : decode cX6_readInto 0 = .ok (.aload_n 0, 1) := by decide +kernel
theorem dX6_readInto_1 : decode cX6_readInto 1 = .ok (.iconst 0, 1) := by decide +kernel
theorem dX6_readInto_2 : decode cX6_readInto 2 = .ok (.putfield 19, 3) := by decide +kernel
theorem dX6_readInto_5 : decode cX6_readInto 5 = .ok (.aload_n 0, 1) := by decide +kernel
theorem dX6_readInto_6 : decode cX6_readInto 6 = .ok (.iconst 0, 1) := by decide +kernel
theorem dX6_readInto_7 : decode cX6_readInto 7 = .ok (.putfield 22, 3) := by decide +kernel
theorem dX6_readInto_10 : decode cX6_readInto 10 = .ok (.aload_n 0, 1) := by decide +kernel
theorem dX6_readInto_11 : decode cX6_readInto 11 = .ok (.aload_n 1, 1) := by decide +kernel
theorem dX6_readInto_12 : decode cX6_readInto 12 = .ok (.invokevirtual 25, 3) := by decide +kernel
theorem dX6_readInto_15 : decode cX6_readInto 15 = .ok (.aload_n 0, 1) := by decide +kernel
theorem dX6_readInto_16 : decode cX6_readInto 16 = .ok (.aload_n 1, 1) := by decide +kernel
theorem dX6_readInto_17 : decode cX6_readInto 17 = .ok (.invokevirtual 29, 3) := by decide +kernel
theorem dX6_readInto_20 : decode cX6_readInto 20 = .ok (.aload_n 0, 1) := by decide +kernel
theorem dX6_readInto_21 : decode cX6_readInto 21 = .ok (.aload_n 1, 1) := by decide +kernel
theorem dX6_readInto_22 : decode cX6_readInto 22 = .ok (.invokevirtual 32, 3) := by decide +kernel
theorem dX6_readInto_25 : decode cX6_readInto 25 = .ok (.aload_n 0, 1) := by decide +kernel
theorem dX6_readInto_26 : decode cX6_readInto 26 = .ok (.getfield 22, 3) := by decide +kernel
theorem dX6_readInto_29 : decode cX6_readInto 29 = .ok (.ireturn, 1) := by decide +kernel
set_option maxRecDepth 20000 in
theorem ggX6_readLaw_X6_readSign : GoodIn wsX6_readLaw wsX6_readSign := goodIn_r _ [9, 10, 11, 12, 13, 14, 15, 16, 8, 17, 43, 44, 45, 46] (by decide +kernel) (by decide +kernel)
set_option maxRecDepth 20000 in
theorem gX6_readLaw_X6_readSign : GoodIn wsX6_readLaw (wsV RX6 35 RX6 yX6_readSign wsX6_readSign) := goodIn_app (goodIn_of _ (by decide +kernel)) ggX6_readLaw_X6_readSign
set_option maxRecDepth 20000 in
theorem ggX6_readLaw_X6_readNumber : GoodIn wsX6_readLaw wsX6_readNumber := goodIn_r _ [21, 11, 12, 13, 10, 14, 15, 16, 8, 17, 22, 23, 24, 43, 44, 45, 46] (by decide +kernel) (by decide +kernel)
set_option maxRecDepth 20000 in
theorem gX6_readLaw_X6_readNumber : GoodIn wsX6_readLaw (wsV RX6 39 RX6 yX6_readNumber wsX6_readNumber) := goodIn_app (goodIn_of _ (by decide +kernel)) ggX6_readLaw_X6_readNumber
set_option maxRecDepth 20000 in
theorem ggX6_readLaw_X2_stand : GoodIn wsX6_readLaw wsX2_stand := goodIn_r _ [29, 30, 31, 32, 33, 47, 48, 49, 50] (by decide +kernel) (by decide +kernel)
set_option maxRecDepth 20000 in
theorem gX6_readLaw_X2_stand : GoodIn wsX6_readLaw (wsV RX6 55 RX2 yX2_stand wsX2_stand) := goodIn_app (goodIn_of _ (by decide +kernel)) ggX6_readLaw_X2_stand
theorem dX6_readLaw_0 : decode cX6_readLaw 0 = .ok (.aload_n 0, 1) := by decide +kernel
theorem dX6_readLaw_1 : decode cX6_readLaw 1 = .ok (.bipush 104, 2) := by decide +kernel
theorem dX6_readLaw_3 : decode cX6_readLaw 3 = .ok (.invokevirtual 35, 3) := by decide +kernel
theorem dX6_readLaw_6 : decode cX6_readLaw 6 = .ok (.aload_n 0, 1) := by decide +kernel
theorem dX6_readLaw_7 : decode cX6_readLaw 7 = .ok (.iconst 1, 1) := by decide +kernel
theorem dX6_readLaw_8 : decode cX6_readLaw 8 = .ok (.bipush 9, 2) := by decide +kernel
theorem dX6_readLaw_10 : decode cX6_readLaw 10 = .ok (.invokevirtual 39, 3) := by decide +kernel
theorem dX6_readLaw_13 : decode cX6_readLaw 13 = .ok (.istore_n 2, 1) := by decide +kernel
theorem dX6_readLaw_14 : decode cX6_readLaw 14 = .ok (.aload_n 0, 1) := by decide +kernel
theorem dX6_readLaw_15 : decode cX6_readLaw 15 = .ok (.bipush 44, 2) := by decide +kernel
theorem dX6_readLaw_17 : decode cX6_readLaw 17 = .ok (.invokevirtual 35, 3) := by decide +kernel
theorem dX6_readLaw_20 : decode cX6_readLaw 20 = .ok (.aload_n 0, 1) := by decide +kernel
theorem dX6_readLaw_21 : decode cX6_readLaw 21 = .ok (.iconst 0, 1) := by decide +kernel
theorem dX6_readLaw_22 : decode cX6_readLaw 22 = .ok (.iconst 4, 1) := by decide +kernel
theorem dX6_readLaw_23 : decode cX6_readLaw 23 = .ok (.invokevirtual 39, 3) := by decide +kernel
theorem dX6_readLaw_26 : decode cX6_readLaw 26 = .ok (.iconst 2, 1) := by decide +kernel
theorem dX6_readLaw_27 : decode cX6_readLaw 27 = .ok (.isub, 1) := by decide +kernel
theorem dX6_readLaw_28 : decode cX6_readLaw 28 = .ok (.istore_n 3, 1) := by decide +kernel
theorem dX6_readLaw_29 : decode cX6_readLaw 29 = .ok (.aload_n 0, 1) := by decide +kernel
theorem dX6_readLaw_30 : decode cX6_readLaw 30 = .ok (.bipush 44, 2) := by decide +kernel
theorem dX6_readLaw_32 : decode cX6_readLaw 32 = .ok (.invokevirtual 35, 3) := by decide +kernel
theorem dX6_readLaw_35 : decode cX6_readLaw 35 = .ok (.aload_n 1, 1) := by decide +kernel
theorem dX6_readLaw_36 : decode cX6_readLaw 36 = .ok (.aload_n 0, 1) := by decide +kernel
theorem dX6_readLaw_37 : decode cX6_readLaw 37 = .ok (.iconst 1, 1) := by decide +kernel
theorem dX6_readLaw_38 : decode cX6_readLaw 38 = .ok (.iconst 5, 1) := by decide +kernel
theorem dX6_readLaw_39 : decode cX6_readLaw 39 = .ok (.invokevirtual 39, 3) := by decide +kernel
theorem dX6_readLaw_42 : decode cX6_readLaw 42 = .ok (.putfield 43, 3) := by decide +kernel
theorem dX6_readLaw_45 : decode cX6_readLaw 45 = .ok (.aload_n 0, 1) := by decide +kernel
theorem dX6_readLaw_46 : decode cX6_readLaw 46 = .ok (.bipush 44, 2) := by decide +kernel
theorem dX6_readLaw_48 : decode cX6_readLaw 48 = .ok (.invokevirtual 35, 3) := by decide +kernel
theorem dX6_readLaw_51 : decode cX6_readLaw 51 = .ok (.aload_n 1, 1) := by decide +kernel
theorem dX6_readLaw_52 : decode cX6_readLaw 52 = .ok (.aload_n 0, 1) := by decide +kernel
theorem dX6_readLaw_53 : decode cX6_readLaw 53 = .ok (.iconst 0, 1) := by decide +kernel
theorem dX6_readLaw_54 : decode cX6_readLaw 54 = .ok (.iconst 3, 1) := by decide +kernel
theorem dX6_readLaw_55 : decode cX6_readLaw 55 = .ok (.invokevirtual 39, 3) := by decide +kernel
theorem dX6_readLaw_58 : decode cX6_readLaw 58 = .ok (.putfield 48, 3) := by decide +kernel
theorem dX6_readLaw_61 : decode cX6_readLaw 61 = .ok (.aload_n 0, 1) := by decide +kernel
theorem dX6_readLaw_62 : decode cX6_readLaw 62 = .ok (.bipush 59, 2) := by decide +kernel
theorem dX6_readLaw_64 : decode cX6_readLaw 64 = .ok (.invokevirtual 35, 3) := by decide +kernel
theorem dX6_readLaw_67 : decode cX6_readLaw 67 = .ok (.aload_n 1, 1) := by decide +kernel
theorem dX6_readLaw_68 : decode cX6_readLaw 68 = .ok (.getfield 51, 3) := by decide +kernel
theorem dX6_readLaw_71 : decode cX6_readLaw 71 = .ok (.iconst 0, 1) := by decide +kernel
theorem dX6_readLaw_72 : decode cX6_readLaw 72 = .ok (.iload_n 2, 1) := by decide +kernel
theorem dX6_readLaw_73 : decode cX6_readLaw 73 = .ok (.iload_n 3, 1) := by decide +kernel
theorem dX6_readLaw_74 : decode cX6_readLaw 74 = .ok (.invokevirtual 55, 3) := by decide +kernel
theorem dX6_readLaw_77 : decode cX6_readLaw 77 = .ok (.aload_n 1, 1) := by decide +kernel
theorem dX6_readLaw_78 : decode cX6_readLaw 78 = .ok (.iconst 0, 1) := by decide +kernel
theorem dX6_readLaw_79 : decode cX6_readLaw 79 = .ok (.putfield 61, 3) := by decide +kernel
theorem dX6_readLaw_82 : decode cX6_readLaw 82 = .ok (.return_, 1) := by decide +kernel
set_option maxRecDepth 20000 in
theorem ggX6_readGrounds_X6_readSign : GoodIn wsX6_readGrounds wsX6_readSign := goodIn_r _ [10, 3, 5, 11, 12, 13, 14, 15, 9, 16, 30, 31, 32, 33] (by decide +kernel) (by decide +kernel)
set_option maxRecDepth 20000 in
theorem gX6_readGrounds_X6_readSign : GoodIn wsX6_readGrounds (wsV RX6 35 RX6 yX6_readSign wsX6_readSign) := goodIn_app (goodIn_of _ (by decide +kernel)) ggX6_readGrounds_X6_readSign
set_option maxRecDepth 20000 in
theorem ggX6_readGrounds_X6_lookUp : GoodIn wsX6_readGrounds wsX6_lookUp := goodIn_r _ [20, 5, 11, 12, 30, 31, 32, 33] (by decide +kernel) (by decide +kernel)
set_option maxRecDepth 20000 in
theorem gX6_readGrounds_X6_lookUp : GoodIn wsX6_readGrounds (wsV RX6 71 RX6 yX6_lookUp wsX6_lookUp) := goodIn_app (goodIn_of _ (by decide +kernel)) ggX6_readGrounds_X6_lookUp
set_option maxRecDepth 20000 in
theorem ggX6_readGrounds_X6_fail : GoodIn wsX6_readGrounds wsX6_fail := goodIn_r _ [16, 3, 30, 31, 32, 33] (by decide +kernel) (by decide +kernel)
set_option maxRecDepth 20000 in
theorem gX6_readGrounds_X6_fail : GoodIn wsX6_readGrounds (wsV RX6 78 RX6 yX6_fail wsX6_fail) := goodIn_app (goodIn_of _ (by decide +kernel)) ggX6_readGrounds_X6_fail
theorem dX6_readGrounds_0 : decode cX6_readGrounds 0 = .ok (.aload_n 0, 1) := by decide +kernel
theorem dX6_readGrounds_1 : decode cX6_readGrounds 1 = .ok (.bipush 103, 2) := by decide +kernel
theorem dX6_readGrounds_3 : decode cX6_readGrounds 3 = .ok (.invokevirtual 35, 3) := by decide +kernel
theorem dX6_readGrounds_6 : decode cX6_readGrounds 6 = .ok (.aload_n 1, 1) := by decide +kernel
theorem dX6_readGrounds_7 : decode cX6_readGrounds 7 = .ok (.iconst 0, 1) := by decide +kernel
theorem dX6_readGrounds_8 : decode cX6_readGrounds 8 = .ok (.putfield 64, 3) := by decide +kernel
theorem dX6_readGrounds_11 : decode cX6_readGrounds 11 = .ok (.aload_n 0, 1) := by decide +kernel
theorem dX6_readGrounds_12 : decode cX6_readGrounds 12 = .ok (.getstatic 67, 3) := by decide +kernel
theorem dX6_readGrounds_15 : decode cX6_readGrounds 15 = .ok (.invokevirtual 71, 3) := by decide +kernel
theorem dX6_readGrounds_18 : decode cX6_readGrounds 18 = .ok (.istore_n 2, 1) := by decide +kernel
theorem dX6_readGrounds_19 : decode cX6_readGrounds 19 = .ok (.aload_n 0, 1) := by decide +kernel
theorem dX6_readGrounds_20 : decode cX6_readGrounds 20 = .ok (.getfield 22, 3) := by decide +kernel
theorem dX6_readGrounds_23 : decode cX6_readGrounds 23 = .ok (.ifCond .ne 57, 3) := by decide +kernel
theorem dX6_readGrounds_26 : decode cX6_readGrounds 26 = .ok (.iload_n 2, 1) := by decide +kernel
theorem dX6_readGrounds_27 : decode cX6_readGrounds 27 = .ok (.ifCond .lt 53, 3) := by decide +kernel
theorem dX6_readGrounds_30 : decode cX6_readGrounds 30 = .ok (.aload_n 1, 1) := by decide +kernel
theorem dX6_readGrounds_31 : decode cX6_readGrounds 31 = .ok (.getfield 64, 3) := by decide +kernel
theorem dX6_readGrounds_34 : decode cX6_readGrounds 34 = .ok (.bipush 24, 2) := by decide +kernel
theorem dX6_readGrounds_36 : decode cX6_readGrounds 36 = .ok (.if_icmp .ge 44, 3) := by decide +kernel
theorem dX6_readGrounds_39 : decode cX6_readGrounds 39 = .ok (.aload_n 1, 1) := by decide +kernel
theorem dX6_readGrounds_40 : decode cX6_readGrounds 40 = .ok (.getfield 75, 3) := by decide +kernel
theorem dX6_readGrounds_43 : decode cX6_readGrounds 43 = .ok (.aload_n 1, 1) := by decide +kernel
theorem dX6_readGrounds_44 : decode cX6_readGrounds 44 = .ok (.getfield 64, 3) := by decide +kernel
theorem dX6_readGrounds_47 : decode cX6_readGrounds 47 = .ok (.iload_n 2, 1) := by decide +kernel
theorem dX6_readGrounds_48 : decode cX6_readGrounds 48 = .ok (.iastore, 1) := by decide +kernel
theorem dX6_readGrounds_49 : decode cX6_readGrounds 49 = .ok (.aload_n 1, 1) := by decide +kernel
theorem dX6_readGrounds_50 : decode cX6_readGrounds 50 = .ok (.dup, 1) := by decide +kernel
theorem dX6_readGrounds_51 : decode cX6_readGrounds 51 = .ok (.getfield 64, 3) := by decide +kernel
theorem dX6_readGrounds_54 : decode cX6_readGrounds 54 = .ok (.iconst 1, 1) := by decide +kernel
theorem dX6_readGrounds_55 : decode cX6_readGrounds 55 = .ok (.iadd, 1) := by decide +kernel
theorem dX6_readGrounds_56 : decode cX6_readGrounds 56 = .ok (.putfield 64, 3) := by decide +kernel
theorem dX6_readGrounds_59 : decode cX6_readGrounds 59 = .ok (.aload_n 0, 1) := by decide +kernel
theorem dX6_readGrounds_60 : decode cX6_readGrounds 60 = .ok (.dup, 1) := by decide +kernel
theorem dX6_readGrounds_61 : decode cX6_readGrounds 61 = .ok (.getfield 19, 3) := by decide +kernel
theorem dX6_readGrounds_64 : decode cX6_readGrounds 64 = .ok (.iconst 1, 1) := by decide +kernel
theorem dX6_readGrounds_65 : decode cX6_readGrounds 65 = .ok (.iadd, 1) := by decide +kernel
theorem dX6_readGrounds_66 : decode cX6_readGrounds 66 = .ok (.putfield 19, 3) := by decide +kernel
theorem dX6_readGrounds_69 : decode cX6_readGrounds 69 = .ok (.aload_n 0, 1) := by decide +kernel
theorem dX6_readGrounds_70 : decode cX6_readGrounds 70 = .ok (.getstatic 67, 3) := by decide +kernel
theorem dX6_readGrounds_73 : decode cX6_readGrounds 73 = .ok (.invokevirtual 71, 3) := by decide +kernel
theorem dX6_readGrounds_76 : decode cX6_readGrounds 76 = .ok (.istore_n 2, 1) := by decide +kernel
theorem dX6_readGrounds_77 : decode cX6_readGrounds 77 = .ok (.goto (-58), 3) := by decide +kernel
theorem dX6_readGrounds_80 : decode cX6_readGrounds 80 = .ok (.aload_n 1, 1) := by decide +kernel
theorem dX6_readGrounds_81 : decode cX6_readGrounds 81 = .ok (.getfield 64, 3) := by decide +kernel
theorem dX6_readGrounds_84 : decode cX6_readGrounds 84 = .ok (.ifCond .ne 8, 3) := by decide +kernel
theorem dX6_readGrounds_87 : decode cX6_readGrounds 87 = .ok (.aload_n 0, 1) := by decide +kernel
theorem dX6_readGrounds_88 : decode cX6_readGrounds 88 = .ok (.iconst 1, 1) := by decide +kernel
theorem dX6_readGrounds_89 : decode cX6_readGrounds 89 = .ok (.invokevirtual 78, 3) := by decide +kernel
theorem dX6_readGrounds_92 : decode cX6_readGrounds 92 = .ok (.aload_n 0, 1) := by decide +kernel
theorem dX6_readGrounds_93 : decode cX6_readGrounds 93 = .ok (.bipush 59, 2) := by decide +kernel
theorem dX6_readGrounds_95 : decode cX6_readGrounds 95 = .ok (.invokevirtual 35, 3) := by decide +kernel
theorem dX6_readGrounds_98 : decode cX6_readGrounds 98 = .ok (.return_, 1) := by decide +kernel
set_option maxRecDepth 20000 in
theorem ggX6_readTaps_X6_readTap : GoodIn wsX6_readTaps wsX6_readTap := goodIn_r _ [9, 10, 1, 3, 11, 12, 13, 14, 15, 8, 16, 4, 17, 18, 19, 20, 21, 2, 22, 23, 24, 25, 26, 27, 28, 29, 30, 31, 32, 33, 34, 35, 36, 37, 38, 39, 40, 41, 42, 43, 44, 45] (by decide +kernel) (by decide +kernel)
set_option maxRecDepth 20000 in
theorem gX6_readTaps_X6_readTap : GoodIn wsX6_readTaps (wsV RX6 85 RX6 yX6_readTap wsX6_readTap) := goodIn_app (goodIn_of _ (by decide +kernel)) ggX6_readTaps_X6_readTap
theorem dX6_readTaps_0 : decode cX6_readTaps 0 = .ok (.aload_n 1, 1) := by decide +kernel
theorem dX6_readTaps_1 : decode cX6_readTaps 1 = .ok (.iconst 0, 1) := by decide +kernel
theorem dX6_readTaps_2 : decode cX6_readTaps 2 = .ok (.putfield 82, 3) := by decide +kernel
theorem dX6_readTaps_5 : decode cX6_readTaps 5 = .ok (.iconst 0, 1) := by decide +kernel
theorem dX6_readTaps_6 : decode cX6_readTaps 6 = .ok (.istore_n 2, 1) := by decide +kernel
theorem dX6_readTaps_7 : decode cX6_readTaps 7 = .ok (.iload_n 2, 1) := by decide +kernel
theorem dX6_readTaps_8 : decode cX6_readTaps 8 = .ok (.iconst 5, 1) := by decide +kernel
theorem dX6_readTaps_9 : decode cX6_readTaps 9 = .ok (.if_icmp .gt 32, 3) := by decide +kernel
theorem dX6_readTaps_12 : decode cX6_readTaps 12 = .ok (.aload_n 0, 1) := by decide +kernel
theorem dX6_readTaps_13 : decode cX6_readTaps 13 = .ok (.getfield 22, 3) := by decide +kernel
theorem dX6_readTaps_16 : decode cX6_readTaps 16 = .ok (.ifCond .ne 25, 3) := by decide +kernel
theorem dX6_readTaps_19 : decode cX6_readTaps 19 = .ok (.aload_n 0, 1) := by decide +kernel
theorem dX6_readTaps_20 : decode cX6_readTaps 20 = .ok (.getfield 19, 3) := by decide +kernel
theorem dX6_readTaps_23 : decode cX6_readTaps 23 = .ok (.aload_n 0, 1) := by decide +kernel
theorem dX6_readTaps_24 : decode cX6_readTaps 24 = .ok (.getfield 15, 3) := by decide +kernel
theorem dX6_readTaps_27 : decode cX6_readTaps 27 = .ok (.if_icmp .ge 14, 3) := by decide +kernel
theorem dX6_readTaps_30 : decode cX6_readTaps 30 = .ok (.aload_n 0, 1) := by decide +kernel
theorem dX6_readTaps_31 : decode cX6_readTaps 31 = .ok (.aload_n 1, 1) := by decide +kernel
theorem dX6_readTaps_32 : decode cX6_readTaps 32 = .ok (.invokevirtual 85, 3) := by decide +kernel
theorem dX6_readTaps_35 : decode cX6_readTaps 35 = .ok (.iinc 2 1, 3) := by decide +kernel
theorem dX6_readTaps_38 : decode cX6_readTaps 38 = .ok (.goto (-31), 3) := by decide +kernel
theorem dX6_readTaps_41 : decode cX6_readTaps 41 = .ok (.return_, 1) := by decide +kernel
set_option maxRecDepth 20000 in
theorem ggX6_readTap_X6_lookUp : GoodIn wsX6_readTap wsX6_lookUp := goodIn_r _ [10, 3, 11, 12, 38, 39, 40, 41] (by decide +kernel) (by decide +kernel)
set_option maxRecDepth 20000 in
theorem gX6_readTap_X6_lookUp : GoodIn wsX6_readTap (wsV RX6 71 RX6 yX6_lookUp wsX6_lookUp) := goodIn_app (goodIn_of _ (by decide +kernel)) ggX6_readTap_X6_lookUp
set_option maxRecDepth 20000 in
theorem ggX6_readTap_X6_fail : GoodIn wsX6_readTap wsX6_fail := goodIn_r _ [16, 17, 38, 39, 40, 41] (by decide +kernel) (by decide +kernel)
set_option maxRecDepth 20000 in
theorem gX6_readTap_X6_fail : GoodIn wsX6_readTap (wsV RX6 78 RX6 yX6_fail wsX6_fail) := goodIn_app (goodIn_of _ (by decide +kernel)) ggX6_readTap_X6_fail
set_option maxRecDepth 20000 in
theorem ggX6_readTap_X6_readNumber : GoodIn wsX6_readTap wsX6_readNumber := goodIn_r _ [21, 3, 11, 12, 17, 13, 14, 15, 9, 16, 22, 23, 24, 38, 39, 40, 41] (by decide +kernel) (by decide +kernel)
set_option maxRecDepth 20000 in
theorem gX6_readTap_X6_readNumber : GoodIn wsX6_readTap (wsV RX6 39 RX6 yX6_readNumber wsX6_readNumber) := goodIn_app (goodIn_of _ (by decide +kernel)) ggX6_readTap_X6_readNumber
set_option maxRecDepth 20000 in
theorem ggX6_readTap_X6_readSign : GoodIn wsX6_readTap wsX6_readSign := goodIn_r _ [28, 17, 3, 11, 12, 13, 14, 15, 9, 16, 38, 39, 40, 41] (by decide +kernel) (by decide +kernel)
set_option maxRecDepth 20000 in
theorem gX6_readTap_X6_readSign : GoodIn wsX6_readTap (wsV RX6 35 RX6 yX6_readSign wsX6_readSign) := goodIn_app (goodIn_of _ (by decide +kernel)) ggX6_readTap_X6_readSign
theorem dX6_readTap_0 : decode cX6_readTap 0 = .ok (.aload_n 0, 1) := by decide +kernel
theorem dX6_readTap_1 : decode cX6_readTap 1 = .ok (.getstatic 88, 3) := by decide +kernel
theorem dX6_readTap_4 : decode cX6_readTap 4 = .ok (.invokevirtual 71, 3) := by decide +kernel
theorem dX6_readTap_7 : decode cX6_readTap 7 = .ok (.istore_n 2, 1) := by decide +kernel
theorem dX6_readTap_8 : decode cX6_readTap 8 = .ok (.iload_n 2, 1) := by decide +kernel
theorem dX6_readTap_9 : decode cX6_readTap 9 = .ok (.ifCond .ge 9, 3) := by decide +kernel
theorem dX6_readTap_12 : decode cX6_readTap 12 = .ok (.aload_n 0, 1) := by decide +kernel
theorem dX6_readTap_13 : decode cX6_readTap 13 = .ok (.iconst 1, 1) := by decide +kernel
theorem dX6_readTap_14 : decode cX6_readTap 14 = .ok (.invokevirtual 78, 3) := by decide +kernel
theorem dX6_readTap_17 : decode cX6_readTap 17 = .ok (.return_, 1) := by decide +kernel
theorem dX6_readTap_18 : decode cX6_readTap 18 = .ok (.aload_n 1, 1) := by decide +kernel
theorem dX6_readTap_19 : decode cX6_readTap 19 = .ok (.getfield 82, 3) := by decide +kernel
theorem dX6_readTap_22 : decode cX6_readTap 22 = .ok (.iconst 5, 1) := by decide +kernel
theorem dX6_readTap_23 : decode cX6_readTap 23 = .ok (.if_icmp .lt 9, 3) := by decide +kernel
theorem dX6_readTap_26 : decode cX6_readTap 26 = .ok (.aload_n 0, 1) := by decide +kernel
theorem dX6_readTap_27 : decode cX6_readTap 27 = .ok (.iconst 3, 1) := by decide +kernel
theorem dX6_readTap_28 : decode cX6_readTap 28 = .ok (.invokevirtual 78, 3) := by decide +kernel
theorem dX6_readTap_31 : decode cX6_readTap 31 = .ok (.return_, 1) := by decide +kernel
theorem dX6_readTap_32 : decode cX6_readTap 32 = .ok (.aload_n 0, 1) := by decide +kernel
theorem dX6_readTap_33 : decode cX6_readTap 33 = .ok (.dup, 1) := by decide +kernel
theorem dX6_readTap_34 : decode cX6_readTap 34 = .ok (.getfield 19, 3) := by decide +kernel
theorem dX6_readTap_37 : decode cX6_readTap 37 = .ok (.iconst 1, 1) := by decide +kernel
theorem dX6_readTap_38 : decode cX6_readTap 38 = .ok (.iadd, 1) := by decide +kernel
theorem dX6_readTap_39 : decode cX6_readTap 39 = .ok (.putfield 19, 3) := by decide +kernel
theorem dX6_readTap_42 : decode cX6_readTap 42 = .ok (.aload_n 1, 1) := by decide +kernel
theorem dX6_readTap_43 : decode cX6_readTap 43 = .ok (.getfield 91, 3) := by decide +kernel
theorem dX6_readTap_46 : decode cX6_readTap 46 = .ok (.aload_n 1, 1) := by decide +kernel
theorem dX6_readTap_47 : decode cX6_readTap 47 = .ok (.getfield 82, 3) := by decide +kernel
theorem dX6_readTap_50 : decode cX6_readTap 50 = .ok (.iconst 1, 1) := by decide +kernel
theorem dX6_readTap_51 : decode cX6_readTap 51 = .ok (.iload_n 2, 1) := by decide +kernel
theorem dX6_readTap_52 : decode cX6_readTap 52 = .ok (.iadd, 1) := by decide +kernel
theorem dX6_readTap_53 : decode cX6_readTap 53 = .ok (.iastore, 1) := by decide +kernel
theorem dX6_readTap_54 : decode cX6_readTap 54 = .ok (.aload_n 1, 1) := by decide +kernel
theorem dX6_readTap_55 : decode cX6_readTap 55 = .ok (.getfield 94, 3) := by decide +kernel
theorem dX6_readTap_58 : decode cX6_readTap 58 = .ok (.aload_n 1, 1) := by decide +kernel
theorem dX6_readTap_59 : decode cX6_readTap 59 = .ok (.getfield 82, 3) := by decide +kernel
theorem dX6_readTap_62 : decode cX6_readTap 62 = .ok (.aload_n 0, 1) := by decide +kernel
theorem dX6_readTap_63 : decode cX6_readTap 63 = .ok (.iconst 1, 1) := by decide +kernel
theorem dX6_readTap_64 : decode cX6_readTap 64 = .ok (.iconst 5, 1) := by decide +kernel
theorem dX6_readTap_65 : decode cX6_readTap 65 = .ok (.invokevirtual 39, 3) := by decide +kernel
theorem dX6_readTap_68 : decode cX6_readTap 68 = .ok (.iastore, 1) := by decide +kernel
theorem dX6_readTap_69 : decode cX6_readTap 69 = .ok (.aload_n 1, 1) := by decide +kernel
theorem dX6_readTap_70 : decode cX6_readTap 70 = .ok (.dup, 1) := by decide +kernel
theorem dX6_readTap_71 : decode cX6_readTap 71 = .ok (.getfield 82, 3) := by decide +kernel
theorem dX6_readTap_74 : decode cX6_readTap 74 = .ok (.iconst 1, 1) := by decide +kernel
theorem dX6_readTap_75 : decode cX6_readTap 75 = .ok (.iadd, 1) := by decide +kernel
theorem dX6_readTap_76 : decode cX6_readTap 76 = .ok (.putfield 82, 3) := by decide +kernel
theorem dX6_readTap_79 : decode cX6_readTap 79 = .ok (.aload_n 0, 1) := by decide +kernel
theorem dX6_readTap_80 : decode cX6_readTap 80 = .ok (.bipush 59, 2) := by decide +kernel
theorem dX6_readTap_82 : decode cX6_readTap 82 = .ok (.invokevirtual 35, 3) := by decide +kernel
theorem dX6_readTap_85 : decode cX6_readTap 85 = .ok (.return_, 1) := by decide +kernel
theorem dX6_lookUp_0 : decode cX6_lookUp 0 = .ok (.iconst 0, 1) := by decide +kernel
theorem dX6_lookUp_1 : decode cX6_lookUp 1 = .ok (.istore_n 2, 1) := by decide +kernel
theorem dX6_lookUp_2 : decode cX6_lookUp 2 = .ok (.iload_n 2, 1) := by decide +kernel
theorem dX6_lookUp_3 : decode cX6_lookUp 3 = .ok (.aload_n 1, 1) := by decide +kernel
theorem dX6_lookUp_4 : decode cX6_lookUp 4 = .ok (.arraylength, 1) := by decide +kernel
theorem dX6_lookUp_5 : decode cX6_lookUp 5 = .ok (.if_icmp .ge 37, 3) := by decide +kernel
theorem dX6_lookUp_8 : decode cX6_lookUp 8 = .ok (.aload_n 0, 1) := by decide +kernel
theorem dX6_lookUp_9 : decode cX6_lookUp 9 = .ok (.getfield 19, 3) := by decide +kernel
theorem dX6_lookUp_12 : decode cX6_lookUp 12 = .ok (.aload_n 0, 1) := by decide +kernel
theorem dX6_lookUp_13 : decode cX6_lookUp 13 = .ok (.getfield 15, 3) := by decide +kernel
theorem dX6_lookUp_16 : decode cX6_lookUp 16 = .ok (.if_icmp .ge 26, 3) := by decide +kernel
theorem dX6_lookUp_19 : decode cX6_lookUp 19 = .ok (.aload_n 0, 1) := by decide +kernel
theorem dX6_lookUp_20 : decode cX6_lookUp 20 = .ok (.getfield 9, 3) := by decide +kernel
theorem dX6_lookUp_23 : decode cX6_lookUp 23 = .ok (.aload_n 0, 1) := by decide +kernel
theorem dX6_lookUp_24 : decode cX6_lookUp 24 = .ok (.getfield 19, 3) := by decide +kernel
theorem dX6_lookUp_27 : decode cX6_lookUp 27 = .ok (.iaload, 1) := by decide +kernel
theorem dX6_lookUp_28 : decode cX6_lookUp 28 = .ok (.aload_n 1, 1) := by decide +kernel
theorem dX6_lookUp_29 : decode cX6_lookUp 29 = .ok (.iload_n 2, 1) := by decide +kernel
theorem dX6_lookUp_30 : decode cX6_lookUp 30 = .ok (.caload, 1) := by decide +kernel
theorem dX6_lookUp_31 : decode cX6_lookUp 31 = .ok (.if_icmp .ne 5, 3) := by decide +kernel
theorem dX6_lookUp_34 : decode cX6_lookUp 34 = .ok (.iload_n 2, 1) := by decide +kernel
theorem dX6_lookUp_35 : decode cX6_lookUp 35 = .ok (.ireturn, 1) := by decide +kernel
theorem dX6_lookUp_36 : decode cX6_lookUp 36 = .ok (.iinc 2 1, 3) := by decide +kernel
theorem dX6_lookUp_39 : decode cX6_lookUp 39 = .ok (.goto (-37), 3) := by decide +kernel
theorem dX6_lookUp_42 : decode cX6_lookUp 42 = .ok (.iconst (-1), 1) := by decide +kernel
theorem dX6_lookUp_43 : decode cX6_lookUp 43 = .ok (.ireturn, 1) := by decide +kernel
set_option maxRecDepth 20000 in
theorem ggX6_readSign_X6_fail : GoodIn wsX6_readSign wsX6_fail := goodIn_r _ [9, 1, 10, 11, 12, 13] (by decide +kernel) (by decide +kernel)
set_option maxRecDepth 20000 in
theorem gX6_readSign_X6_fail : GoodIn wsX6_readSign (wsV RX6 78 RX6 yX6_fail wsX6_fail) := goodIn_app (goodIn_of _ (by decide +kernel)) ggX6_readSign_X6_fail
theorem dX6_readSign_0 : decode cX6_readSign 0 = .ok (.aload_n 0, 1) := by decide +kernel
theorem dX6_readSign_1 : decode cX6_readSign 1 = .ok (.getfield 22, 3) := by decide +kernel
theorem dX6_readSign_4 : decode cX6_readSign 4 = .ok (.ifCond .eq 4, 3) := by decide +kernel
theorem dX6_readSign_7 : decode cX6_readSign 7 = .ok (.return_, 1) := by decide +kernel
theorem dX6_readSign_8 : decode cX6_readSign 8 = .ok (.aload_n 0, 1) := by decide +kernel
theorem dX6_readSign_9 : decode cX6_readSign 9 = .ok (.getfield 19, 3) := by decide +kernel
theorem dX6_readSign_12 : decode cX6_readSign 12 = .ok (.aload_n 0, 1) := by decide +kernel
theorem dX6_readSign_13 : decode cX6_readSign 13 = .ok (.getfield 15, 3) := by decide +kernel
theorem dX6_readSign_16 : decode cX6_readSign 16 = .ok (.if_icmp .ge 16, 3) := by decide +kernel
theorem dX6_readSign_19 : decode cX6_readSign 19 = .ok (.aload_n 0, 1) := by decide +kernel
theorem dX6_readSign_20 : decode cX6_readSign 20 = .ok (.getfield 9, 3) := by decide +kernel
theorem dX6_readSign_23 : decode cX6_readSign 23 = .ok (.aload_n 0, 1) := by decide +kernel
theorem dX6_readSign_24 : decode cX6_readSign 24 = .ok (.getfield 19, 3) := by decide +kernel
theorem dX6_readSign_27 : decode cX6_readSign 27 = .ok (.iaload, 1) := by decide +kernel
theorem dX6_readSign_28 : decode cX6_readSign 28 = .ok (.iload_n 1, 1) := by decide +kernel
theorem dX6_readSign_29 : decode cX6_readSign 29 = .ok (.if_icmp .eq 9, 3) := by decide +kernel
theorem dX6_readSign_32 : decode cX6_readSign 32 = .ok (.aload_n 0, 1) := by decide +kernel
theorem dX6_readSign_33 : decode cX6_readSign 33 = .ok (.iconst 1, 1) := by decide +kernel
theorem dX6_readSign_34 : decode cX6_readSign 34 = .ok (.invokevirtual 78, 3) := by decide +kernel
theorem dX6_readSign_37 : decode cX6_readSign 37 = .ok (.return_, 1) := by decide +kernel
theorem dX6_readSign_38 : decode cX6_readSign 38 = .ok (.aload_n 0, 1) := by decide +kernel
theorem dX6_readSign_39 : decode cX6_readSign 39 = .ok (.dup, 1) := by decide +kernel
theorem dX6_readSign_40 : decode cX6_readSign 40 = .ok (.getfield 19, 3) := by decide +kernel
theorem dX6_readSign_43 : decode cX6_readSign 43 = .ok (.iconst 1, 1) := by decide +kernel
theorem dX6_readSign_44 : decode cX6_readSign 44 = .ok (.iadd, 1) := by decide +kernel
theorem dX6_readSign_45 : decode cX6_readSign 45 = .ok (.putfield 19, 3) := by decide +kernel
theorem dX6_readSign_48 : decode cX6_readSign 48 = .ok (.return_, 1) := by decide +kernel
set_option maxRecDepth 20000 in
theorem ggX6_readNumber_X6_fail : GoodIn wsX6_readNumber wsX6_fail := goodIn_r _ [9, 4, 13, 14, 15, 16] (by decide +kernel) (by decide +kernel)
set_option maxRecDepth 20000 in
theorem gX6_readNumber_X6_fail : GoodIn wsX6_readNumber (wsV RX6 78 RX6 yX6_fail wsX6_fail) := goodIn_app (goodIn_of _ (by decide +kernel)) ggX6_readNumber_X6_fail
set_option maxRecDepth 20000 in
theorem ggX6_readNumber_X7_isOut : GoodIn wsX6_readNumber wsX7_isOut := goodIn_r _ [12] (by decide +kernel) (by decide +kernel)
set_option maxRecDepth 20000 in
theorem gX6_readNumber_X7_isOut_n97 : GoodIn wsX6_readNumber (wsX7_isOut) := ggX6_readNumber_X7_isOut
theorem dX6_readNumber_0 : decode cX6_readNumber 0 = .ok (.iconst 0, 1) := by decide +kernel
theorem dX6_readNumber_1 : decode cX6_readNumber 1 = .ok (.istore_n 3, 1) := by decide +kernel
theorem dX6_readNumber_2 : decode cX6_readNumber 2 = .ok (.aload_n 0, 1) := by decide +kernel
theorem dX6_readNumber_3 : decode cX6_readNumber 3 = .ok (.getfield 19, 3) := by decide +kernel
theorem dX6_readNumber_6 : decode cX6_readNumber 6 = .ok (.istore 4, 2) := by decide +kernel
theorem dX6_readNumber_8 : decode cX6_readNumber 8 = .ok (.iload 4, 2) := by decide +kernel
theorem dX6_readNumber_10 : decode cX6_readNumber 10 = .ok (.aload_n 0, 1) := by decide +kernel
theorem dX6_readNumber_11 : decode cX6_readNumber 11 = .ok (.getfield 15, 3) := by decide +kernel
theorem dX6_readNumber_14 : decode cX6_readNumber 14 = .ok (.if_icmp .ge 49, 3) := by decide +kernel
theorem dX6_readNumber_17 : decode cX6_readNumber 17 = .ok (.aload_n 0, 1) := by decide +kernel
theorem dX6_readNumber_18 : decode cX6_readNumber 18 = .ok (.getfield 9, 3) := by decide +kernel
theorem dX6_readNumber_21 : decode cX6_readNumber 21 = .ok (.iload 4, 2) := by decide +kernel
theorem dX6_readNumber_23 : decode cX6_readNumber 23 = .ok (.iaload, 1) := by decide +kernel
theorem dX6_readNumber_24 : decode cX6_readNumber 24 = .ok (.bipush 48, 2) := by decide +kernel
theorem dX6_readNumber_26 : decode cX6_readNumber 26 = .ok (.if_icmp .lt 37, 3) := by decide +kernel
theorem dX6_readNumber_29 : decode cX6_readNumber 29 = .ok (.aload_n 0, 1) := by decide +kernel
theorem dX6_readNumber_30 : decode cX6_readNumber 30 = .ok (.getfield 9, 3) := by decide +kernel
theorem dX6_readNumber_33 : decode cX6_readNumber 33 = .ok (.iload 4, 2) := by decide +kernel
theorem dX6_readNumber_35 : decode cX6_readNumber 35 = .ok (.iaload, 1) := by decide +kernel
theorem dX6_readNumber_36 : decode cX6_readNumber 36 = .ok (.bipush 57, 2) := by decide +kernel
theorem dX6_readNumber_38 : decode cX6_readNumber 38 = .ok (.if_icmp .gt 25, 3) := by decide +kernel
theorem dX6_readNumber_41 : decode cX6_readNumber 41 = .ok (.iload_n 3, 1) := by decide +kernel
theorem dX6_readNumber_42 : decode cX6_readNumber 42 = .ok (.bipush 10, 2) := by decide +kernel
theorem dX6_readNumber_44 : decode cX6_readNumber 44 = .ok (.imul, 1) := by decide +kernel
theorem dX6_readNumber_45 : decode cX6_readNumber 45 = .ok (.aload_n 0, 1) := by decide +kernel
theorem dX6_readNumber_46 : decode cX6_readNumber 46 = .ok (.getfield 9, 3) := by decide +kernel
theorem dX6_readNumber_49 : decode cX6_readNumber 49 = .ok (.iload 4, 2) := by decide +kernel
theorem dX6_readNumber_51 : decode cX6_readNumber 51 = .ok (.iaload, 1) := by decide +kernel
theorem dX6_readNumber_52 : decode cX6_readNumber 52 = .ok (.iadd, 1) := by decide +kernel
theorem dX6_readNumber_53 : decode cX6_readNumber 53 = .ok (.bipush 48, 2) := by decide +kernel
theorem dX6_readNumber_55 : decode cX6_readNumber 55 = .ok (.isub, 1) := by decide +kernel
theorem dX6_readNumber_56 : decode cX6_readNumber 56 = .ok (.istore_n 3, 1) := by decide +kernel
theorem dX6_readNumber_57 : decode cX6_readNumber 57 = .ok (.iinc 4 1, 3) := by decide +kernel
theorem dX6_readNumber_60 : decode cX6_readNumber 60 = .ok (.goto (-52), 3) := by decide +kernel
theorem dX6_readNumber_63 : decode cX6_readNumber 63 = .ok (.iload 4, 2) := by decide +kernel
theorem dX6_readNumber_65 : decode cX6_readNumber 65 = .ok (.aload_n 0, 1) := by decide +kernel
theorem dX6_readNumber_66 : decode cX6_readNumber 66 = .ok (.getfield 19, 3) := by decide +kernel
theorem dX6_readNumber_69 : decode cX6_readNumber 69 = .ok (.if_icmp .eq 14, 3) := by decide +kernel
theorem dX6_readNumber_72 : decode cX6_readNumber 72 = .ok (.iload 4, 2) := by decide +kernel
theorem dX6_readNumber_74 : decode cX6_readNumber 74 = .ok (.aload_n 0, 1) := by decide +kernel
theorem dX6_readNumber_75 : decode cX6_readNumber 75 = .ok (.getfield 19, 3) := by decide +kernel
theorem dX6_readNumber_78 : decode cX6_readNumber 78 = .ok (.iconst 2, 1) := by decide +kernel
theorem dX6_readNumber_79 : decode cX6_readNumber 79 = .ok (.iadd, 1) := by decide +kernel
theorem dX6_readNumber_80 : decode cX6_readNumber 80 = .ok (.if_icmp .le 11, 3) := by decide +kernel
theorem dX6_readNumber_83 : decode cX6_readNumber 83 = .ok (.aload_n 0, 1) := by decide +kernel
theorem dX6_readNumber_84 : decode cX6_readNumber 84 = .ok (.iconst 1, 1) := by decide +kernel
theorem dX6_readNumber_85 : decode cX6_readNumber 85 = .ok (.invokevirtual 78, 3) := by decide +kernel
theorem dX6_readNumber_88 : decode cX6_readNumber 88 = .ok (.goto 17, 3) := by decide +kernel
theorem dX6_readNumber_91 : decode cX6_readNumber 91 = .ok (.iload_n 3, 1) := by decide +kernel
theorem dX6_readNumber_92 : decode cX6_readNumber 92 = .ok (.iload_n 1, 1) := by decide +kernel
theorem dX6_readNumber_93 : decode cX6_readNumber 93 = .ok (.iload_n 2, 1) := by decide +kernel
theorem dX6_readNumber_94 : decode cX6_readNumber 94 = .ok (.invokestatic 97, 3) := by decide +kernel
theorem dX6_readNumber_97 : decode cX6_readNumber 97 = .ok (.ifCond .eq 8, 3) := by decide +kernel
theorem dX6_readNumber_100 : decode cX6_readNumber 100 = .ok (.aload_n 0, 1) := by decide +kernel
theorem dX6_readNumber_101 : decode cX6_readNumber 101 = .ok (.iconst 2, 1) := by decide +kernel
theorem dX6_readNumber_102 : decode cX6_readNumber 102 = .ok (.invokevirtual 78, 3) := by decide +kernel
theorem dX6_readNumber_105 : decode cX6_readNumber 105 = .ok (.aload_n 0, 1) := by decide +kernel
theorem dX6_readNumber_106 : decode cX6_readNumber 106 = .ok (.getfield 22, 3) := by decide +kernel
theorem dX6_readNumber_109 : decode cX6_readNumber 109 = .ok (.ifCond .ne 9, 3) := by decide +kernel
theorem dX6_readNumber_112 : decode cX6_readNumber 112 = .ok (.aload_n 0, 1) := by decide +kernel
theorem dX6_readNumber_113 : decode cX6_readNumber 113 = .ok (.iload 4, 2) := by decide +kernel
theorem dX6_readNumber_115 : decode cX6_readNumber 115 = .ok (.putfield 19, 3) := by decide +kernel
theorem dX6_readNumber_118 : decode cX6_readNumber 118 = .ok (.iload_n 3, 1) := by decide +kernel
theorem dX6_readNumber_119 : decode cX6_readNumber 119 = .ok (.ireturn, 1) := by decide +kernel
theorem dX6_fail_0 : decode cX6_fail 0 = .ok (.aload_n 0, 1) := by decide +kernel
theorem dX6_fail_1 : decode cX6_fail 1 = .ok (.getfield 22, 3) := by decide +kernel
theorem dX6_fail_4 : decode cX6_fail 4 = .ok (.ifCond .ne 8, 3) := by decide +kernel
theorem dX6_fail_7 : decode cX6_fail 7 = .ok (.aload_n 0, 1) := by decide +kernel
theorem dX6_fail_8 : decode cX6_fail 8 = .ok (.iload_n 1, 1) := by decide +kernel
theorem dX6_fail_9 : decode cX6_fail 9 = .ok (.putfield 22, 3) := by decide +kernel
theorem dX6_fail_12 : decode cX6_fail 12 = .ok (.return_, 1) := by decide +kernel
theorem dJ6_bitCount_0f7a4_0 : decode cJ6_bitCount_0f7a4 0 = .ok (.iload_n 0, 1) := by decide +kernel
theorem dJ6_bitCount_0f7a4_1 : decode cJ6_bitCount_0f7a4 1 = .ok (.iload_n 0, 1) := by decide +kernel
theorem dJ6_bitCount_0f7a4_2 : decode cJ6_bitCount_0f7a4 2 = .ok (.iconst 1, 1) := by decide +kernel
theorem dJ6_bitCount_0f7a4_3 : decode cJ6_bitCount_0f7a4 3 = .ok (.iushr, 1) := by decide +kernel
theorem dJ6_bitCount_0f7a4_4 : decode cJ6_bitCount_0f7a4 4 = .ok (.ldc_w 265, 3) := by decide +kernel
theorem dJ6_bitCount_0f7a4_7 : decode cJ6_bitCount_0f7a4 7 = .ok (.iand, 1) := by decide +kernel
theorem dJ6_bitCount_0f7a4_8 : decode cJ6_bitCount_0f7a4 8 = .ok (.isub, 1) := by decide +kernel
theorem dJ6_bitCount_0f7a4_9 : decode cJ6_bitCount_0f7a4 9 = .ok (.istore_n 0, 1) := by decide +kernel
theorem dJ6_bitCount_0f7a4_10 : decode cJ6_bitCount_0f7a4 10 = .ok (.iload_n 0, 1) := by decide +kernel
theorem dJ6_bitCount_0f7a4_11 : decode cJ6_bitCount_0f7a4 11 = .ok (.ldc_w 266, 3) := by decide +kernel
theorem dJ6_bitCount_0f7a4_14 : decode cJ6_bitCount_0f7a4 14 = .ok (.iand, 1) := by decide +kernel
theorem dJ6_bitCount_0f7a4_15 : decode cJ6_bitCount_0f7a4 15 = .ok (.iload_n 0, 1) := by decide +kernel
theorem dJ6_bitCount_0f7a4_16 : decode cJ6_bitCount_0f7a4 16 = .ok (.iconst 2, 1) := by decide +kernel
theorem dJ6_bitCount_0f7a4_17 : decode cJ6_bitCount_0f7a4 17 = .ok (.iushr, 1) := by decide +kernel
theorem dJ6_bitCount_0f7a4_18 : decode cJ6_bitCount_0f7a4 18 = .ok (.ldc_w 266, 3) := by decide +kernel
theorem dJ6_bitCount_0f7a4_21 : decode cJ6_bitCount_0f7a4 21 = .ok (.iand, 1) := by decide +kernel
theorem dJ6_bitCount_0f7a4_22 : decode cJ6_bitCount_0f7a4 22 = .ok (.iadd, 1) := by decide +kernel
theorem dJ6_bitCount_0f7a4_23 : decode cJ6_bitCount_0f7a4 23 = .ok (.istore_n 0, 1) := by decide +kernel
theorem dJ6_bitCount_0f7a4_24 : decode cJ6_bitCount_0f7a4 24 = .ok (.iload_n 0, 1) := by decide +kernel
theorem dJ6_bitCount_0f7a4_25 : decode cJ6_bitCount_0f7a4 25 = .ok (.iload_n 0, 1) := by decide +kernel
theorem dJ6_bitCount_0f7a4_26 : decode cJ6_bitCount_0f7a4 26 = .ok (.iconst 4, 1) := by decide +kernel
theorem dJ6_bitCount_0f7a4_27 : decode cJ6_bitCount_0f7a4 27 = .ok (.iushr, 1) := by decide +kernel
theorem dJ6_bitCount_0f7a4_28 : decode cJ6_bitCount_0f7a4 28 = .ok (.iadd, 1) := by decide +kernel
theorem dJ6_bitCount_0f7a4_29 : decode cJ6_bitCount_0f7a4 29 = .ok (.ldc_w 267, 3) := by decide +kernel
theorem dJ6_bitCount_0f7a4_32 : decode cJ6_bitCount_0f7a4 32 = .ok (.iand, 1) := by decide +kernel
theorem dJ6_bitCount_0f7a4_33 : decode cJ6_bitCount_0f7a4 33 = .ok (.istore_n 0, 1) := by decide +kernel
theorem dJ6_bitCount_0f7a4_34 : decode cJ6_bitCount_0f7a4 34 = .ok (.iload_n 0, 1) := by decide +kernel
theorem dJ6_bitCount_0f7a4_35 : decode cJ6_bitCount_0f7a4 35 = .ok (.iload_n 0, 1) := by decide +kernel
theorem dJ6_bitCount_0f7a4_36 : decode cJ6_bitCount_0f7a4 36 = .ok (.bipush 8, 2) := by decide +kernel
theorem dJ6_bitCount_0f7a4_38 : decode cJ6_bitCount_0f7a4 38 = .ok (.iushr, 1) := by decide +kernel
theorem dJ6_bitCount_0f7a4_39 : decode cJ6_bitCount_0f7a4 39 = .ok (.iadd, 1) := by decide +kernel
theorem dJ6_bitCount_0f7a4_40 : decode cJ6_bitCount_0f7a4 40 = .ok (.istore_n 0, 1) := by decide +kernel
theorem dJ6_bitCount_0f7a4_41 : decode cJ6_bitCount_0f7a4 41 = .ok (.iload_n 0, 1) := by decide +kernel
theorem dJ6_bitCount_0f7a4_42 : decode cJ6_bitCount_0f7a4 42 = .ok (.iload_n 0, 1) := by decide +kernel
theorem dJ6_bitCount_0f7a4_43 : decode cJ6_bitCount_0f7a4 43 = .ok (.bipush 16, 2) := by decide +kernel
theorem dJ6_bitCount_0f7a4_45 : decode cJ6_bitCount_0f7a4 45 = .ok (.iushr, 1) := by decide +kernel
theorem dJ6_bitCount_0f7a4_46 : decode cJ6_bitCount_0f7a4 46 = .ok (.iadd, 1) := by decide +kernel
theorem dJ6_bitCount_0f7a4_47 : decode cJ6_bitCount_0f7a4 47 = .ok (.istore_n 0, 1) := by decide +kernel
theorem dJ6_bitCount_0f7a4_48 : decode cJ6_bitCount_0f7a4 48 = .ok (.iload_n 0, 1) := by decide +kernel
theorem dJ6_bitCount_0f7a4_49 : decode cJ6_bitCount_0f7a4 49 = .ok (.bipush 63, 2) := by decide +kernel
theorem dJ6_bitCount_0f7a4_51 : decode cJ6_bitCount_0f7a4 51 = .ok (.iand, 1) := by decide +kernel
theorem dJ6_bitCount_0f7a4_52 : decode cJ6_bitCount_0f7a4 52 = .ok (.ireturn, 1) := by decide +kernel
theorem dJ9_max_7cf53_0 : decode cJ9_max_7cf53 0 = .ok (.iload_n 0, 1) := by decide +kernel
theorem dJ9_max_7cf53_1 : decode cJ9_max_7cf53 1 = .ok (.iload_n 1, 1) := by decide +kernel
theorem dJ9_max_7cf53_2 : decode cJ9_max_7cf53 2 = .ok (.if_icmp .lt 7, 3) := by decide +kernel
theorem dJ9_max_7cf53_5 : decode cJ9_max_7cf53 5 = .ok (.iload_n 0, 1) := by decide +kernel
theorem dJ9_max_7cf53_6 : decode cJ9_max_7cf53 6 = .ok (.goto 4, 3) := by decide +kernel
theorem dJ9_max_7cf53_9 : decode cJ9_max_7cf53 9 = .ok (.iload_n 1, 1) := by decide +kernel
theorem dJ9_max_7cf53_10 : decode cJ9_max_7cf53 10 = .ok (.ireturn, 1) := by decide +kernel
theorem dJ9_min_7cf53_0 : decode cJ9_min_7cf53 0 = .ok (.iload_n 0, 1) := by decide +kernel
theorem dJ9_min_7cf53_1 : decode cJ9_min_7cf53 1 = .ok (.iload_n 1, 1) := by decide +kernel
theorem dJ9_min_7cf53_2 : decode cJ9_min_7cf53 2 = .ok (.if_icmp .gt 7, 3) := by decide +kernel
theorem dJ9_min_7cf53_5 : decode cJ9_min_7cf53 5 = .ok (.iload_n 0, 1) := by decide +kernel
theorem dJ9_min_7cf53_6 : decode cJ9_min_7cf53 6 = .ok (.goto 4, 3) := by decide +kernel
theorem dJ9_min_7cf53_9 : decode cJ9_min_7cf53 9 = .ok (.iload_n 1, 1) := by decide +kernel
theorem dJ9_min_7cf53_10 : decode cJ9_min_7cf53 10 = .ok (.ireturn, 1) := by decide +kernel
theorem dJ7_fill_53178_0 : decode cJ7_fill_53178 0 = .ok (.iconst 0, 1) := by decide +kernel
theorem dJ7_fill_53178_1 : decode cJ7_fill_53178 1 = .ok (.istore_n 2, 1) := by decide +kernel
theorem dJ7_fill_53178_2 : decode cJ7_fill_53178 2 = .ok (.aload_n 0, 1) := by decide +kernel
theorem dJ7_fill_53178_3 : decode cJ7_fill_53178 3 = .ok (.arraylength, 1) := by decide +kernel
theorem dJ7_fill_53178_4 : decode cJ7_fill_53178 4 = .ok (.istore_n 3, 1) := by decide +kernel
theorem dJ7_fill_53178_5 : decode cJ7_fill_53178 5 = .ok (.iload_n 2, 1) := by decide +kernel
theorem dJ7_fill_53178_6 : decode cJ7_fill_53178 6 = .ok (.iload_n 3, 1) := by decide +kernel
theorem dJ7_fill_53178_7 : decode cJ7_fill_53178 7 = .ok (.if_icmp .ge 13, 3) := by decide +kernel
theorem dJ7_fill_53178_10 : decode cJ7_fill_53178 10 = .ok (.aload_n 0, 1) := by decide +kernel
theorem dJ7_fill_53178_11 : decode cJ7_fill_53178 11 = .ok (.iload_n 2, 1) := by decide +kernel
theorem dJ7_fill_53178_12 : decode cJ7_fill_53178 12 = .ok (.iload_n 1, 1) := by decide +kernel
theorem dJ7_fill_53178_13 : decode cJ7_fill_53178 13 = .ok (.iastore, 1) := by decide +kernel
theorem dJ7_fill_53178_14 : decode cJ7_fill_53178 14 = .ok (.iinc 2 1, 3) := by decide +kernel
theorem dJ7_fill_53178_17 : decode cJ7_fill_53178 17 = .ok (.goto (-12), 3) := by decide +kernel
theorem dJ7_fill_53178_20 : decode cJ7_fill_53178 20 = .ok (.return_, 1) := by decide +kernel
