theorem dX5_put_70 : decode cX5_put 70 = .ok (.lshl, 1) := by decide +kernel
theorem dX5_put_71 : decode cX5_put 71 = .ok (.lor, 1) := by decide +kernel
theorem dX5_put_72 : decode cX5_put 72 = .ok (.lastore, 1) := by decide +kernel
theorem dX5_put_73 : decode cX5_put 73 = .ok (.return_, 1) := by decide +kernel
set_option maxRecDepth 20000 in
theorem ggX5_longestFrom_X5_at : GoodIn wsX5_longestFrom wsX5_at := goodIn_r _ [5, 6, 7, 8, 9, 4, 10, 11] (by decide +kernel) (by decide +kernel)
set_option maxRecDepth 20000 in
theorem gX5_longestFrom_X5_at : GoodIn wsX5_longestFrom (wsV RX5 29 RX5 yX5_at wsX5_at) := goodIn_app (goodIn_of _ (by decide +kernel)) ggX5_longestFrom_X5_at
theorem dX5_longestFrom_0 : decode cX5_longestFrom 0 = .ok (.bipush 16, 2) := by decide +kernel
theorem dX5_longestFrom_2 : decode cX5_longestFrom 2 = .ok (.istore_n 2, 1) := by decide +kernel
theorem dX5_longestFrom_3 : decode cX5_longestFrom 3 = .ok (.iload_n 2, 1) := by decide +kernel
theorem dX5_longestFrom_4 : decode cX5_longestFrom 4 = .ok (.ifCond .le 21, 3) := by decide +kernel
theorem dX5_longestFrom_7 : decode cX5_longestFrom 7 = .ok (.aload_n 0, 1) := by decide +kernel
theorem dX5_longestFrom_8 : decode cX5_longestFrom 8 = .ok (.iload_n 1, 1) := by decide +kernel
theorem dX5_longestFrom_9 : decode cX5_longestFrom 9 = .ok (.iload_n 2, 1) := by decide +kernel
theorem dX5_longestFrom_10 : decode cX5_longestFrom 10 = .ok (.invokevirtual 29, 3) := by decide +kernel
theorem dX5_longestFrom_13 : decode cX5_longestFrom 13 = .ok (.iconst (-1), 1) := by decide +kernel
theorem dX5_longestFrom_14 : decode cX5_longestFrom 14 = .ok (.if_icmp .eq 5, 3) := by decide +kernel
theorem dX5_longestFrom_17 : decode cX5_longestFrom 17 = .ok (.iload_n 2, 1) := by decide +kernel
theorem dX5_longestFrom_18 : decode cX5_longestFrom 18 = .ok (.ireturn, 1) := by decide +kernel
theorem dX5_longestFrom_19 : decode cX5_longestFrom 19 = .ok (.iinc 2 (-1), 3) := by decide +kernel
theorem dX5_longestFrom_22 : decode cX5_longestFrom 22 = .ok (.goto (-19), 3) := by decide +kernel
theorem dX5_longestFrom_25 : decode cX5_longestFrom 25 = .ok (.iconst 0, 1) := by decide +kernel
theorem dX5_longestFrom_26 : decode cX5_longestFrom 26 = .ok (.ireturn, 1) := by decide +kernel
set_option maxRecDepth 20000 in
theorem ggX5_countFrom_X5_at : GoodIn wsX5_countFrom wsX5_at := goodIn_r _ [5, 6, 7, 8, 9, 4, 10, 11] (by decide +kernel) (by decide +kernel)
set_option maxRecDepth 20000 in
theorem gX5_countFrom_X5_at : GoodIn wsX5_countFrom (wsV RX5 29 RX5 yX5_at wsX5_at) := goodIn_app (goodIn_of _ (by decide +kernel)) ggX5_countFrom_X5_at
theorem dX5_countFrom_0 : decode cX5_countFrom 0 = .ok (.iconst 0, 1) := by decide +kernel
theorem dX5_countFrom_1 : decode cX5_countFrom 1 = .ok (.istore_n 2, 1) := by decide +kernel
theorem dX5_countFrom_2 : decode cX5_countFrom 2 = .ok (.iconst 1, 1) := by decide +kernel
theorem dX5_countFrom_3 : decode cX5_countFrom 3 = .ok (.istore_n 3, 1) := by decide +kernel
theorem dX5_countFrom_4 : decode cX5_countFrom 4 = .ok (.iload_n 3, 1) := by decide +kernel
theorem dX5_countFrom_5 : decode cX5_countFrom 5 = .ok (.bipush 16, 2) := by decide +kernel
theorem dX5_countFrom_7 : decode cX5_countFrom 7 = .ok (.if_icmp .gt 22, 3) := by decide +kernel
theorem dX5_countFrom_10 : decode cX5_countFrom 10 = .ok (.aload_n 0, 1) := by decide +kernel
theorem dX5_countFrom_11 : decode cX5_countFrom 11 = .ok (.iload_n 1, 1) := by decide +kernel
theorem dX5_countFrom_12 : decode cX5_countFrom 12 = .ok (.iload_n 3, 1) := by decide +kernel
theorem dX5_countFrom_13 : decode cX5_countFrom 13 = .ok (.invokevirtual 29, 3) := by decide +kernel
theorem dX5_countFrom_16 : decode cX5_countFrom 16 = .ok (.iconst (-1), 1) := by decide +kernel
theorem dX5_countFrom_17 : decode cX5_countFrom 17 = .ok (.if_icmp .eq 6, 3) := by decide +kernel
theorem dX5_countFrom_20 : decode cX5_countFrom 20 = .ok (.iinc 2 1, 3) := by decide +kernel
theorem dX5_countFrom_23 : decode cX5_countFrom 23 = .ok (.iinc 3 1, 3) := by decide +kernel
theorem dX5_countFrom_26 : decode cX5_countFrom 26 = .ok (.goto (-22), 3) := by decide +kernel
theorem dX5_countFrom_29 : decode cX5_countFrom 29 = .ok (.iload_n 2, 1) := by decide +kernel
theorem dX5_countFrom_30 : decode cX5_countFrom 30 = .ok (.ireturn, 1) := by decide +kernel
set_option maxRecDepth 20000 in
theorem ggX5_countTo_X5_at : GoodIn wsX5_countTo wsX5_at := goodIn_r _ [5, 6, 7, 8, 9, 4, 10, 11] (by decide +kernel) (by decide +kernel)
set_option maxRecDepth 20000 in
theorem gX5_countTo_X5_at : GoodIn wsX5_countTo (wsV RX5 29 RX5 yX5_at wsX5_at) := goodIn_app (goodIn_of _ (by decide +kernel)) ggX5_countTo_X5_at
theorem dX5_countTo_0 : decode cX5_countTo 0 = .ok (.iconst 0, 1) := by decide +kernel
theorem dX5_countTo_1 : decode cX5_countTo 1 = .ok (.istore_n 2, 1) := by decide +kernel
theorem dX5_countTo_2 : decode cX5_countTo 2 = .ok (.iconst 1, 1) := by decide +kernel
theorem dX5_countTo_3 : decode cX5_countTo 3 = .ok (.istore_n 3, 1) := by decide +kernel
theorem dX5_countTo_4 : decode cX5_countTo 4 = .ok (.iload_n 3, 1) := by decide +kernel
theorem dX5_countTo_5 : decode cX5_countTo 5 = .ok (.bipush 16, 2) := by decide +kernel
theorem dX5_countTo_7 : decode cX5_countTo 7 = .ok (.if_icmp .gt 26, 3) := by decide +kernel
theorem dX5_countTo_10 : decode cX5_countTo 10 = .ok (.aload_n 0, 1) := by decide +kernel
theorem dX5_countTo_11 : decode cX5_countTo 11 = .ok (.iload_n 1, 1) := by decide +kernel
theorem dX5_countTo_12 : decode cX5_countTo 12 = .ok (.iload_n 3, 1) := by decide +kernel
theorem dX5_countTo_13 : decode cX5_countTo 13 = .ok (.isub, 1) := by decide +kernel
theorem dX5_countTo_14 : decode cX5_countTo 14 = .ok (.iconst 1, 1) := by decide +kernel
theorem dX5_countTo_15 : decode cX5_countTo 15 = .ok (.iadd, 1) := by decide +kernel
theorem dX5_countTo_16 : decode cX5_countTo 16 = .ok (.iload_n 3, 1) := by decide +kernel
theorem dX5_countTo_17 : decode cX5_countTo 17 = .ok (.invokevirtual 29, 3) := by decide +kernel
theorem dX5_countTo_20 : decode cX5_countTo 20 = .ok (.iconst (-1), 1) := by decide +kernel
theorem dX5_countTo_21 : decode cX5_countTo 21 = .ok (.if_icmp .eq 6, 3) := by decide +kernel
theorem dX5_countTo_24 : decode cX5_countTo 24 = .ok (.iinc 2 1, 3) := by decide +kernel
theorem dX5_countTo_27 : decode cX5_countTo 27 = .ok (.iinc 3 1, 3) := by decide +kernel
theorem dX5_countTo_30 : decode cX5_countTo 30 = .ok (.goto (-26), 3) := by decide +kernel
theorem dX5_countTo_33 : decode cX5_countTo 33 = .ok (.iload_n 2, 1) := by decide +kernel
theorem dX5_countTo_34 : decode cX5_countTo 34 = .ok (.ireturn, 1) := by decide +kernel
set_option maxRecDepth 20000 in
theorem ggX6_init_X1_init : GoodIn wsX6_init wsX1_init := goodIn_r _ [18, 19, 2, 3, 20, 21, 22, 23, 5, 24, 25, 34, 35] (by decide +kernel) (by decide +kernel)
set_option maxRecDepth 20000 in
theorem gX6_init_X1_init : GoodIn wsX6_init (wsX1_init) := ggX6_init_X1_init
theorem dX6_init_0 : decode cX6_init 0 = .ok (.aload_n 0, 1) := by decide +kernel
theorem dX6_init_1 : decode cX6_init 1 = .ok (.invokespecial 3, 3) := by decide +kernel
theorem dX6_init_4 : decode cX6_init 4 = .ok (.aload_n 0, 1) := by decide +kernel
theorem dX6_init_5 : decode cX6_init 5 = .ok (.aload_n 1, 1) := by decide +kernel
theorem dX6_init_6 : decode cX6_init 6 = .ok (.putfield 9, 3) := by decide +kernel
theorem dX6_init_9 : decode cX6_init 9 = .ok (.aload_n 0, 1) := by decide +kernel
theorem dX6_init_10 : decode cX6_init 10 = .ok (.bipush 40, 2) := by decide +kernel
theorem dX6_init_12 : decode cX6_init 12 = .ok (.newarray .int, 2) := by decide +kernel
theorem dX6_init_14 : decode cX6_init 14 = .ok (.putfield 15, 3) := by decide +kernel
theorem dX6_init_17 : decode cX6_init 17 = .ok (.aload_n 0, 1) := by decide +kernel
theorem dX6_init_18 : decode cX6_init 18 = .ok (.bipush 40, 2) := by decide +kernel
theorem dX6_init_20 : decode cX6_init 20 = .ok (.newarray .int, 2) := by decide +kernel
theorem dX6_init_22 : decode cX6_init 22 = .ok (.putfield 19, 3) := by decide +kernel
theorem dX6_init_25 : decode cX6_init 25 = .ok (.aload_n 0, 1) := by decide +kernel
theorem dX6_init_26 : decode cX6_init 26 = .ok (.sipush 1600, 3) := by decide +kernel
theorem dX6_init_29 : decode cX6_init 29 = .ok (.newarray .int, 2) := by decide +kernel
theorem dX6_init_31 : decode cX6_init 31 = .ok (.putfield 22, 3) := by decide +kernel
theorem dX6_init_34 : decode cX6_init 34 = .ok (.aload_n 0, 1) := by decide +kernel
theorem dX6_init_35 : decode cX6_init 35 = .ok (.new 25, 3) := by decide +kernel
theorem dX6_init_38 : decode cX6_init 38 = .ok (.dup, 1) := by decide +kernel
theorem dX6_init_39 : decode cX6_init 39 = .ok (.sipush 640, 3) := by decide +kernel
theorem dX6_init_42 : decode cX6_init 42 = .ok (.invokespecial 27, 3) := by decide +kernel
theorem dX6_init_45 : decode cX6_init 45 = .ok (.putfield 30, 3) := by decide +kernel
theorem dX6_init_48 : decode cX6_init 48 = .ok (.aload_n 0, 1) := by decide +kernel
theorem dX6_init_49 : decode cX6_init 49 = .ok (.new 25, 3) := by decide +kernel
theorem dX6_init_52 : decode cX6_init 52 = .ok (.dup, 1) := by decide +kernel
theorem dX6_init_53 : decode cX6_init 53 = .ok (.sipush 640, 3) := by decide +kernel
theorem dX6_init_56 : decode cX6_init 56 = .ok (.invokespecial 27, 3) := by decide +kernel
theorem dX6_init_59 : decode cX6_init 59 = .ok (.putfield 34, 3) := by decide +kernel
theorem dX6_init_62 : decode cX6_init 62 = .ok (.aload_n 0, 1) := by decide +kernel
theorem dX6_init_63 : decode cX6_init 63 = .ok (.iconst 0, 1) := by decide +kernel
theorem dX6_init_64 : decode cX6_init 64 = .ok (.putfield 37, 3) := by decide +kernel
theorem dX6_init_67 : decode cX6_init 67 = .ok (.aload_n 0, 1) := by decide +kernel
theorem dX6_init_68 : decode cX6_init 68 = .ok (.iconst 0, 1) := by decide +kernel
theorem dX6_init_69 : decode cX6_init 69 = .ok (.putfield 41, 3) := by decide +kernel
theorem dX6_init_72 : decode cX6_init 72 = .ok (.return_, 1) := by decide +kernel
theorem dX6_forget_0 : decode cX6_forget 0 = .ok (.aload_n 0, 1) := by decide +kernel
theorem dX6_forget_1 : decode cX6_forget 1 = .ok (.iconst 0, 1) := by decide +kernel
theorem dX6_forget_2 : decode cX6_forget 2 = .ok (.putfield 41, 3) := by decide +kernel
theorem dX6_forget_5 : decode cX6_forget 5 = .ok (.return_, 1) := by decide +kernel
set_option maxRecDepth 20000 in
theorem ggX6_build_X6_collect : GoodIn wsX6_build wsX6_collect := goodIn_r _ [7, 8, 2, 9, 10, 11, 12, 13, 14, 15, 16, 17, 18, 19, 20, 21, 22, 23, 24, 25, 26, 27, 28, 29, 30, 31, 32, 33, 34, 35, 36, 37, 38, 39, 40, 41, 42, 43, 44, 45, 46, 47, 48, 49, 50, 51, 52, 53, 54, 55, 56, 57, 58, 59, 60, 61, 62, 63, 64, 65, 66, 67, 68, 69, 70, 71, 72, 73, 74, 75, 76, 77, 107, 108, 109, 110, 111, 112, 113, 114, 115, 116, 117, 118, 119, 120, 121, 122, 123, 124] (by decide +kernel) (by decide +kernel)
set_option maxRecDepth 20000 in
theorem gX6_build_X6_collect : GoodIn wsX6_build (wsV RX6 45 RX6 yX6_collect wsX6_collect) := goodIn_app (goodIn_of _ (by decide +kernel)) ggX6_build_X6_collect
set_option maxRecDepth 20000 in
theorem ggX6_build_X6_measureOverlaps : GoodIn wsX6_build wsX6_measureOverlaps := goodIn_r _ [81, 82, 83, 84, 85, 6, 86, 12, 87, 56, 57, 58, 88, 8, 89, 10, 90, 91, 92, 49, 93, 51, 52, 53, 54, 55, 59, 60, 61, 62, 63, 64, 65, 66, 107, 108, 109, 110, 111, 112, 113, 114, 122, 123, 124] (by decide +kernel) (by decide +kernel)
set_option maxRecDepth 20000 in
theorem gX6_build_X6_measureOverlaps : GoodIn wsX6_build (wsV RX6 49 RX6 yX6_measureOverlaps wsX6_measureOverlaps) := goodIn_app (goodIn_of _ (by decide +kernel)) ggX6_build_X6_measureOverlaps
set_option maxRecDepth 20000 in
theorem ggX6_build_X6_widestPair : GoodIn wsX6_build wsX6_widestPair := goodIn_r _ [97, 2, 12, 82, 107, 108, 109, 110, 111, 112, 113, 114] (by decide +kernel) (by decide +kernel)
set_option maxRecDepth 20000 in
theorem gX6_build_X6_widestPair : GoodIn wsX6_build (wsV RX6 53 RX6 yX6_widestPair wsX6_widestPair) := goodIn_app (goodIn_of _ (by decide +kernel)) ggX6_build_X6_widestPair
set_option maxRecDepth 20000 in
theorem ggX6_build_X6_join : GoodIn wsX6_build wsX6_join := goodIn_r _ [101, 82, 10, 12, 102, 103, 104, 6, 105, 106, 2, 11, 8, 89, 14, 15, 16, 17, 18, 19, 69, 70, 71, 72, 73, 74, 75, 76, 77, 107, 108, 109, 110, 111, 112, 113, 114, 122, 123] (by decide +kernel) (by decide +kernel)
set_option maxRecDepth 20000 in
theorem gX6_build_X6_join : GoodIn wsX6_build (wsV RX6 57 RX6 yX6_join wsX6_join) := goodIn_app (goodIn_of _ (by decide +kernel)) ggX6_build_X6_join
theorem dX6_build_0 : decode cX6_build 0 = .ok (.aload_n 0, 1) := by decide +kernel
theorem dX6_build_1 : decode cX6_build 1 = .ok (.getfield 41, 3) := by decide +kernel
theorem dX6_build_4 : decode cX6_build 4 = .ok (.ifCond .eq 4, 3) := by decide +kernel
theorem dX6_build_7 : decode cX6_build 7 = .ok (.return_, 1) := by decide +kernel
theorem dX6_build_8 : decode cX6_build 8 = .ok (.aload_n 0, 1) := by decide +kernel
theorem dX6_build_9 : decode cX6_build 9 = .ok (.aload_n 1, 1) := by decide +kernel
theorem dX6_build_10 : decode cX6_build 10 = .ok (.invokevirtual 45, 3) := by decide +kernel
theorem dX6_build_13 : decode cX6_build 13 = .ok (.iconst 0, 1) := by decide +kernel
theorem dX6_build_14 : decode cX6_build 14 = .ok (.istore_n 2, 1) := by decide +kernel
theorem dX6_build_15 : decode cX6_build 15 = .ok (.iload_n 2, 1) := by decide +kernel
theorem dX6_build_16 : decode cX6_build 16 = .ok (.aload_n 0, 1) := by decide +kernel
theorem dX6_build_17 : decode cX6_build 17 = .ok (.getfield 37, 3) := by decide +kernel
theorem dX6_build_20 : decode cX6_build 20 = .ok (.if_icmp .ge 15, 3) := by decide +kernel
theorem dX6_build_23 : decode cX6_build 23 = .ok (.aload_n 0, 1) := by decide +kernel
theorem dX6_build_24 : decode cX6_build 24 = .ok (.iload_n 2, 1) := by decide +kernel
theorem dX6_build_25 : decode cX6_build 25 = .ok (.iload_n 2, 1) := by decide +kernel
theorem dX6_build_26 : decode cX6_build 26 = .ok (.invokevirtual 49, 3) := by decide +kernel
theorem dX6_build_29 : decode cX6_build 29 = .ok (.iinc 2 1, 3) := by decide +kernel
theorem dX6_build_32 : decode cX6_build 32 = .ok (.goto (-17), 3) := by decide +kernel
theorem dX6_build_35 : decode cX6_build 35 = .ok (.iconst 1, 1) := by decide +kernel
theorem dX6_build_36 : decode cX6_build 36 = .ok (.istore_n 2, 1) := by decide +kernel
theorem dX6_build_37 : decode cX6_build 37 = .ok (.iload_n 2, 1) := by decide +kernel
theorem dX6_build_38 : decode cX6_build 38 = .ok (.aload_n 0, 1) := by decide +kernel
theorem dX6_build_39 : decode cX6_build 39 = .ok (.getfield 37, 3) := by decide +kernel
theorem dX6_build_42 : decode cX6_build 42 = .ok (.if_icmp .ge 43, 3) := by decide +kernel
theorem dX6_build_45 : decode cX6_build 45 = .ok (.aload_n 0, 1) := by decide +kernel
theorem dX6_build_46 : decode cX6_build 46 = .ok (.invokevirtual 53, 3) := by decide +kernel
theorem dX6_build_49 : decode cX6_build 49 = .ok (.istore_n 3, 1) := by decide +kernel
theorem dX6_build_50 : decode cX6_build 50 = .ok (.iload_n 3, 1) := by decide +kernel
theorem dX6_build_51 : decode cX6_build 51 = .ok (.iconst (-1), 1) := by decide +kernel
theorem dX6_build_52 : decode cX6_build 52 = .ok (.if_icmp .eq 27, 3) := by decide +kernel
theorem dX6_build_55 : decode cX6_build 55 = .ok (.aload_n 0, 1) := by decide +kernel
theorem dX6_build_56 : decode cX6_build 56 = .ok (.iload_n 3, 1) := by decide +kernel
theorem dX6_build_57 : decode cX6_build 57 = .ok (.bipush 40, 2) := by decide +kernel
theorem dX6_build_59 : decode cX6_build 59 = .ok (.idiv, 1) := by decide +kernel
theorem dX6_build_60 : decode cX6_build 60 = .ok (.iload_n 3, 1) := by decide +kernel
theorem dX6_build_61 : decode cX6_build 61 = .ok (.bipush 40, 2) := by decide +kernel
theorem dX6_build_63 : decode cX6_build 63 = .ok (.irem, 1) := by decide +kernel
theorem dX6_build_64 : decode cX6_build 64 = .ok (.invokevirtual 57, 3) := by decide +kernel
theorem dX6_build_67 : decode cX6_build 67 = .ok (.aload_n 0, 1) := by decide +kernel
theorem dX6_build_68 : decode cX6_build 68 = .ok (.iload_n 3, 1) := by decide +kernel
theorem dX6_build_69 : decode cX6_build 69 = .ok (.bipush 40, 2) := by decide +kernel
theorem dX6_build_71 : decode cX6_build 71 = .ok (.idiv, 1) := by decide +kernel
theorem dX6_build_72 : decode cX6_build 72 = .ok (.aload_n 0, 1) := by decide +kernel
theorem dX6_build_73 : decode cX6_build 73 = .ok (.getfield 37, 3) := by decide +kernel
theorem dX6_build_76 : decode cX6_build 76 = .ok (.invokevirtual 49, 3) := by decide +kernel
theorem dX6_build_79 : decode cX6_build 79 = .ok (.iinc 2 1, 3) := by decide +kernel
theorem dX6_build_82 : decode cX6_build 82 = .ok (.goto (-45), 3) := by decide +kernel
theorem dX6_build_85 : decode cX6_build 85 = .ok (.aload_n 0, 1) := by decide +kernel
theorem dX6_build_86 : decode cX6_build 86 = .ok (.iconst 1, 1) := by decide +kernel
theorem dX6_build_87 : decode cX6_build 87 = .ok (.putfield 41, 3) := by decide +kernel
theorem dX6_build_90 : decode cX6_build 90 = .ok (.return_, 1) := by decide +kernel
set_option maxRecDepth 20000 in
theorem ggX6_collect_X1_clear : GoodIn wsX6_collect wsX1_clear := goodIn_r _ [12, 13, 87, 88] (by decide +kernel) (by decide +kernel)
set_option maxRecDepth 20000 in
theorem gX6_collect_X1_clear : GoodIn wsX6_collect (wsV RX6 60 RX1 yX1_clear wsX1_clear) := goodIn_app (goodIn_of _ (by decide +kernel)) ggX6_collect_X1_clear
set_option maxRecDepth 20000 in
theorem ggX6_collect_X3_isAlive : GoodIn wsX6_collect wsX3_isAlive := goodIn_r _ [18, 19, 20, 21, 22, 17, 23, 24, 80, 81, 82, 83, 84, 85, 86] (by decide +kernel) (by decide +kernel)
set_option maxRecDepth 20000 in
theorem gX6_collect_X3_isAlive : GoodIn wsX6_collect (wsV RX6 68 RX3 yX3_isAlive wsX3_isAlive) := goodIn_app (goodIn_of _ (by decide +kernel)) ggX6_collect_X3_isAlive
set_option maxRecDepth 20000 in
theorem ggX6_collect_X3_isInsideAnother : GoodIn wsX6_collect wsX3_isInsideAnother := goodIn_r _ [28, 24, 19, 29, 30, 31, 32, 33, 34, 17, 35, 20, 21, 22, 23, 36, 37, 38, 39, 40, 41, 42, 43, 44, 45, 46, 47, 48, 49, 50, 51, 52, 53, 54, 55, 56, 57, 58, 59, 60, 80, 81, 82, 83, 84, 85, 86, 89] (by decide +kernel) (by decide +kernel)
set_option maxRecDepth 20000 in
theorem gX6_collect_X3_isInsideAnother : GoodIn wsX6_collect (wsV RX6 72 RX3 yX3_isInsideAnother wsX3_isInsideAnother) := goodIn_app (goodIn_of _ (by decide +kernel)) ggX6_collect_X3_isInsideAnother
set_option maxRecDepth 20000 in
theorem ggX6_collect_X3_lengthOf : GoodIn wsX6_collect wsX3_lengthOf := goodIn_r _ [35, 29, 20, 21, 22, 17, 23, 24, 80, 81, 82, 83, 84, 85, 86] (by decide +kernel) (by decide +kernel)
set_option maxRecDepth 20000 in
theorem gX6_collect_X3_lengthOf : GoodIn wsX6_collect (wsV RX6 78 RX3 yX3_lengthOf wsX3_lengthOf) := goodIn_app (goodIn_of _ (by decide +kernel)) ggX6_collect_X3_lengthOf
set_option maxRecDepth 20000 in
theorem ggX6_collect_X3_firstByteOf : GoodIn wsX6_collect wsX3_firstByteOf := goodIn_r _ [39] (by decide +kernel) (by decide +kernel)
set_option maxRecDepth 20000 in
theorem gX6_collect_X3_firstByteOf : GoodIn wsX6_collect (wsV RX6 85 RX3 yX3_firstByteOf wsX3_firstByteOf) := goodIn_app (goodIn_of _ (by decide +kernel)) ggX6_collect_X3_firstByteOf
set_option maxRecDepth 20000 in
theorem ggX6_collect_X1_appendRun : GoodIn wsX6_collect wsX1_appendRun := goodIn_r _ [66, 67, 13, 68, 69, 70, 71, 87, 88] (by decide +kernel) (by decide +kernel)
set_option maxRecDepth 20000 in
theorem gX6_collect_X1_appendRun : GoodIn wsX6_collect (wsV RX6 88 RX1 yX1_appendRun wsX1_appendRun) := goodIn_app (goodIn_of _ (by decide +kernel)) ggX6_collect_X1_appendRun
theorem dX6_collect_0 : decode cX6_collect 0 = .ok (.aload_n 0, 1) := by decide +kernel
theorem dX6_collect_1 : decode cX6_collect 1 = .ok (.getfield 30, 3) := by decide +kernel
theorem dX6_collect_4 : decode cX6_collect 4 = .ok (.invokevirtual 60, 3) := by decide +kernel
theorem dX6_collect_7 : decode cX6_collect 7 = .ok (.aload_n 0, 1) := by decide +kernel
theorem dX6_collect_8 : decode cX6_collect 8 = .ok (.iconst 0, 1) := by decide +kernel
theorem dX6_collect_9 : decode cX6_collect 9 = .ok (.putfield 37, 3) := by decide +kernel
theorem dX6_collect_12 : decode cX6_collect 12 = .ok (.iconst 0, 1) := by decide +kernel
theorem dX6_collect_13 : decode cX6_collect 13 = .ok (.istore_n 2, 1) := by decide +kernel
theorem dX6_collect_14 : decode cX6_collect 14 = .ok (.iload_n 2, 1) := by decide +kernel
theorem dX6_collect_15 : decode cX6_collect 15 = .ok (.aload_n 1, 1) := by decide +kernel
theorem dX6_collect_16 : decode cX6_collect 16 = .ok (.getfield 63, 3) := by decide +kernel
theorem dX6_collect_19 : decode cX6_collect 19 = .ok (.if_icmp .ge 95, 3) := by decide +kernel
theorem dX6_collect_22 : decode cX6_collect 22 = .ok (.aload_n 0, 1) := by decide +kernel
theorem dX6_collect_23 : decode cX6_collect 23 = .ok (.getfield 37, 3) := by decide +kernel
theorem dX6_collect_26 : decode cX6_collect 26 = .ok (.bipush 40, 2) := by decide +kernel
theorem dX6_collect_28 : decode cX6_collect 28 = .ok (.if_icmp .ge 80, 3) := by decide +kernel
theorem dX6_collect_31 : decode cX6_collect 31 = .ok (.aload_n 1, 1) := by decide +kernel
theorem dX6_collect_32 : decode cX6_collect 32 = .ok (.iload_n 2, 1) := by decide +kernel
theorem dX6_collect_33 : decode cX6_collect 33 = .ok (.invokevirtual 68, 3) := by decide +kernel
theorem dX6_collect_36 : decode cX6_collect 36 = .ok (.ifCond .eq 72, 3) := by decide +kernel
theorem dX6_collect_39 : decode cX6_collect 39 = .ok (.aload_n 1, 1) := by decide +kernel
theorem dX6_collect_40 : decode cX6_collect 40 = .ok (.iload_n 2, 1) := by decide +kernel
theorem dX6_collect_41 : decode cX6_collect 41 = .ok (.invokevirtual 72, 3) := by decide +kernel
theorem dX6_collect_44 : decode cX6_collect 44 = .ok (.ifCond .ne 64, 3) := by decide +kernel
theorem dX6_collect_47 : decode cX6_collect 47 = .ok (.aload_n 0, 1) := by decide +kernel
theorem dX6_collect_48 : decode cX6_collect 48 = .ok (.getfield 15, 3) := by decide +kernel
theorem dX6_collect_51 : decode cX6_collect 51 = .ok (.aload_n 0, 1) := by decide +kernel
theorem dX6_collect_52 : decode cX6_collect 52 = .ok (.getfield 37, 3) := by decide +kernel
theorem dX6_collect_55 : decode cX6_collect 55 = .ok (.aload_n 0, 1) := by decide +kernel
theorem dX6_collect_56 : decode cX6_collect 56 = .ok (.getfield 30, 3) := by decide +kernel
theorem dX6_collect_59 : decode cX6_collect 59 = .ok (.getfield 75, 3) := by decide +kernel
theorem dX6_collect_62 : decode cX6_collect 62 = .ok (.iastore, 1) := by decide +kernel
theorem dX6_collect_63 : decode cX6_collect 63 = .ok (.aload_n 0, 1) := by decide +kernel
theorem dX6_collect_64 : decode cX6_collect 64 = .ok (.getfield 19, 3) := by decide +kernel
theorem dX6_collect_67 : decode cX6_collect 67 = .ok (.aload_n 0, 1) := by decide +kernel
theorem dX6_collect_68 : decode cX6_collect 68 = .ok (.getfield 37, 3) := by decide +kernel
theorem dX6_collect_71 : decode cX6_collect 71 = .ok (.aload_n 1, 1) := by decide +kernel
theorem dX6_collect_72 : decode cX6_collect 72 = .ok (.iload_n 2, 1) := by decide +kernel
theorem dX6_collect_73 : decode cX6_collect 73 = .ok (.invokevirtual 78, 3) := by decide +kernel
theorem dX6_collect_76 : decode cX6_collect 76 = .ok (.iastore, 1) := by decide +kernel
theorem dX6_collect_77 : decode cX6_collect 77 = .ok (.aload_n 0, 1) := by decide +kernel
theorem dX6_collect_78 : decode cX6_collect 78 = .ok (.dup, 1) := by decide +kernel
theorem dX6_collect_79 : decode cX6_collect 79 = .ok (.getfield 37, 3) := by decide +kernel
theorem dX6_collect_82 : decode cX6_collect 82 = .ok (.iconst 1, 1) := by decide +kernel
theorem dX6_collect_83 : decode cX6_collect 83 = .ok (.iadd, 1) := by decide +kernel
theorem dX6_collect_84 : decode cX6_collect 84 = .ok (.putfield 37, 3) := by decide +kernel
theorem dX6_collect_87 : decode cX6_collect 87 = .ok (.aload_n 0, 1) := by decide +kernel
theorem dX6_collect_88 : decode cX6_collect 88 = .ok (.getfield 30, 3) := by decide +kernel
theorem dX6_collect_91 : decode cX6_collect 91 = .ok (.aload_n 1, 1) := by decide +kernel
theorem dX6_collect_92 : decode cX6_collect 92 = .ok (.getfield 82, 3) := by decide +kernel
theorem dX6_collect_95 : decode cX6_collect 95 = .ok (.aload_n 1, 1) := by decide +kernel
theorem dX6_collect_96 : decode cX6_collect 96 = .ok (.iload_n 2, 1) := by decide +kernel
theorem dX6_collect_97 : decode cX6_collect 97 = .ok (.invokevirtual 85, 3) := by decide +kernel
theorem dX6_collect_100 : decode cX6_collect 100 = .ok (.aload_n 1, 1) := by decide +kernel
theorem dX6_collect_101 : decode cX6_collect 101 = .ok (.iload_n 2, 1) := by decide +kernel
theorem dX6_collect_102 : decode cX6_collect 102 = .ok (.invokevirtual 78, 3) := by decide +kernel
theorem dX6_collect_105 : decode cX6_collect 105 = .ok (.invokevirtual 88, 3) := by decide +kernel
theorem dX6_collect_108 : decode cX6_collect 108 = .ok (.iinc 2 1, 3) := by decide +kernel
theorem dX6_collect_111 : decode cX6_collect 111 = .ok (.goto (-97), 3) := by decide +kernel
theorem dX6_collect_114 : decode cX6_collect 114 = .ok (.return_, 1) := by decide +kernel
set_option maxRecDepth 20000 in
theorem ggX6_measureOverlaps_X6_overlapOf : GoodIn wsX6_measureOverlaps wsX6_overlapOf := goodIn_r _ [6, 7, 8, 9, 10, 11, 12, 13, 14, 15, 16, 17, 18, 19, 20, 21, 22, 23, 24, 25, 26, 27, 28, 29, 30, 31, 32, 33, 34, 35, 36, 37, 38, 39, 40, 41, 42, 43, 44] (by decide +kernel) (by decide +kernel)
set_option maxRecDepth 20000 in
theorem gX6_measureOverlaps_X6_overlapOf : GoodIn wsX6_measureOverlaps (wsV RX6 92 RX6 yX6_overlapOf wsX6_overlapOf) := goodIn_app (goodIn_of _ (by decide +kernel)) ggX6_measureOverlaps_X6_overlapOf
theorem dX6_measureOverlaps_0 : decode cX6_measureOverlaps 0 = .ok (.iconst 0, 1) := by decide +kernel
theorem dX6_measureOverlaps_1 : decode cX6_measureOverlaps 1 = .ok (.istore_n 3, 1) := by decide +kernel
theorem dX6_measureOverlaps_2 : decode cX6_measureOverlaps 2 = .ok (.iload_n 3, 1) := by decide +kernel
theorem dX6_measureOverlaps_3 : decode cX6_measureOverlaps 3 = .ok (.iload_n 2, 1) := by decide +kernel
theorem dX6_measureOverlaps_4 : decode cX6_measureOverlaps 4 = .ok (.if_icmp .ge 43, 3) := by decide +kernel
theorem dX6_measureOverlaps_7 : decode cX6_measureOverlaps 7 = .ok (.aload_n 0, 1) := by decide +kernel
theorem dX6_measureOverlaps_8 : decode cX6_measureOverlaps 8 = .ok (.getfield 22, 3) := by decide +kernel
theorem dX6_measureOverlaps_11 : decode cX6_measureOverlaps 11 = .ok (.iload_n 1, 1) := by decide +kernel
theorem dX6_measureOverlaps_12 : decode cX6_measureOverlaps 12 = .ok (.bipush 40, 2) := by decide +kernel
theorem dX6_measureOverlaps_14 : decode cX6_measureOverlaps 14 = .ok (.imul, 1) := by decide +kernel
theorem dX6_measureOverlaps_15 : decode cX6_measureOverlaps 15 = .ok (.iload_n 3, 1) := by decide +kernel
theorem dX6_measureOverlaps_16 : decode cX6_measureOverlaps 16 = .ok (.iadd, 1) := by decide +kernel
theorem dX6_measureOverlaps_17 : decode cX6_measureOverlaps 17 = .ok (.aload_n 0, 1) := by decide +kernel
theorem dX6_measureOverlaps_18 : decode cX6_measureOverlaps 18 = .ok (.iload_n 1, 1) := by decide +kernel
theorem dX6_measureOverlaps_19 : decode cX6_measureOverlaps 19 = .ok (.iload_n 3, 1) := by decide +kernel
theorem dX6_measureOverlaps_20 : decode cX6_measureOverlaps 20 = .ok (.invokevirtual 92, 3) := by decide +kernel
theorem dX6_measureOverlaps_23 : decode cX6_measureOverlaps 23 = .ok (.iastore, 1) := by decide +kernel
theorem dX6_measureOverlaps_24 : decode cX6_measureOverlaps 24 = .ok (.aload_n 0, 1) := by decide +kernel
theorem dX6_measureOverlaps_25 : decode cX6_measureOverlaps 25 = .ok (.getfield 22, 3) := by decide +kernel
theorem dX6_measureOverlaps_28 : decode cX6_measureOverlaps 28 = .ok (.iload_n 3, 1) := by decide +kernel
theorem dX6_measureOverlaps_29 : decode cX6_measureOverlaps 29 = .ok (.bipush 40, 2) := by decide +kernel
theorem dX6_measureOverlaps_31 : decode cX6_measureOverlaps 31 = .ok (.imul, 1) := by decide +kernel
theorem dX6_measureOverlaps_32 : decode cX6_measureOverlaps 32 = .ok (.iload_n 1, 1) := by decide +kernel
theorem dX6_measureOverlaps_33 : decode cX6_measureOverlaps 33 = .ok (.iadd, 1) := by decide +kernel
theorem dX6_measureOverlaps_34 : decode cX6_measureOverlaps 34 = .ok (.aload_n 0, 1) := by decide +kernel
theorem dX6_measureOverlaps_35 : decode cX6_measureOverlaps 35 = .ok (.iload_n 3, 1) := by decide +kernel
theorem dX6_measureOverlaps_36 : decode cX6_measureOverlaps 36 = .ok (.iload_n 1, 1) := by decide +kernel
theorem dX6_measureOverlaps_37 : decode cX6_measureOverlaps 37 = .ok (.invokevirtual 92, 3) := by decide +kernel
theorem dX6_measureOverlaps_40 : decode cX6_measureOverlaps 40 = .ok (.iastore, 1) := by decide +kernel
theorem dX6_measureOverlaps_41 : decode cX6_measureOverlaps 41 = .ok (.iinc 3 1, 3) := by decide +kernel
theorem dX6_measureOverlaps_44 : decode cX6_measureOverlaps 44 = .ok (.goto (-42), 3) := by decide +kernel
theorem dX6_measureOverlaps_47 : decode cX6_measureOverlaps 47 = .ok (.return_, 1) := by decide +kernel
set_option maxRecDepth 20000 in
theorem ggX6_overlapOf_X2_overlap : GoodIn wsX6_overlapOf wsX2_overlap := goodIn_r _ [14, 15, 16, 17, 13, 18, 19, 3, 4, 5, 20, 21, 22, 23, 24, 25, 26, 27, 38] (by decide +kernel) (by decide +kernel)
set_option maxRecDepth 20000 in
theorem gX6_overlapOf_X2_overlap : GoodIn wsX6_overlapOf (wsV RX6 102 RX2 yX2_overlap wsX2_overlap) := goodIn_app (goodIn_of _ (by decide +kernel)) ggX6_overlapOf_X2_overlap
theorem dX6_overlapOf_0 : decode cX6_overlapOf 0 = .ok (.bipush 16, 2) := by decide +kernel
theorem dX6_overlapOf_2 : decode cX6_overlapOf 2 = .ok (.aload_n 0, 1) := by decide +kernel
theorem dX6_overlapOf_3 : decode cX6_overlapOf 3 = .ok (.getfield 19, 3) := by decide +kernel
theorem dX6_overlapOf_6 : decode cX6_overlapOf 6 = .ok (.iload_n 1, 1) := by decide +kernel
theorem dX6_overlapOf_7 : decode cX6_overlapOf 7 = .ok (.iaload, 1) := by decide +kernel
theorem dX6_overlapOf_8 : decode cX6_overlapOf 8 = .ok (.aload_n 0, 1) := by decide +kernel
theorem dX6_overlapOf_9 : decode cX6_overlapOf 9 = .ok (.getfield 19, 3) := by decide +kernel
theorem dX6_overlapOf_12 : decode cX6_overlapOf 12 = .ok (.iload_n 2, 1) := by decide +kernel
theorem dX6_overlapOf_13 : decode cX6_overlapOf 13 = .ok (.iaload, 1) := by decide +kernel
theorem dX6_overlapOf_14 : decode cX6_overlapOf 14 = .ok (.invokestatic 96, 3) := by decide +kernel
theorem dX6_overlapOf_17 : decode cX6_overlapOf 17 = .ok (.invokestatic 96, 3) := by decide +kernel
theorem dX6_overlapOf_20 : decode cX6_overlapOf 20 = .ok (.iconst 1, 1) := by decide +kernel
theorem dX6_overlapOf_21 : decode cX6_overlapOf 21 = .ok (.isub, 1) := by decide +kernel
theorem dX6_overlapOf_22 : decode cX6_overlapOf 22 = .ok (.istore_n 3, 1) := by decide +kernel
theorem dX6_overlapOf_23 : decode cX6_overlapOf 23 = .ok (.aload_n 0, 1) := by decide +kernel
theorem dX6_overlapOf_24 : decode cX6_overlapOf 24 = .ok (.getfield 9, 3) := by decide +kernel
theorem dX6_overlapOf_27 : decode cX6_overlapOf 27 = .ok (.aload_n 0, 1) := by decide +kernel
theorem dX6_overlapOf_28 : decode cX6_overlapOf 28 = .ok (.getfield 30, 3) := by decide +kernel
theorem dX6_overlapOf_31 : decode cX6_overlapOf 31 = .ok (.getfield 101, 3) := by decide +kernel
theorem dX6_overlapOf_34 : decode cX6_overlapOf 34 = .ok (.aload_n 0, 1) := by decide +kernel
theorem dX6_overlapOf_35 : decode cX6_overlapOf 35 = .ok (.getfield 15, 3) := by decide +kernel
theorem dX6_overlapOf_38 : decode cX6_overlapOf 38 = .ok (.iload_n 1, 1) := by decide +kernel
theorem dX6_overlapOf_39 : decode cX6_overlapOf 39 = .ok (.iaload, 1) := by decide +kernel
theorem dX6_overlapOf_40 : decode cX6_overlapOf 40 = .ok (.aload_n 0, 1) := by decide +kernel
theorem dX6_overlapOf_41 : decode cX6_overlapOf 41 = .ok (.getfield 19, 3) := by decide +kernel
theorem dX6_overlapOf_44 : decode cX6_overlapOf 44 = .ok (.iload_n 1, 1) := by decide +kernel
theorem dX6_overlapOf_45 : decode cX6_overlapOf 45 = .ok (.iaload, 1) := by decide +kernel
theorem dX6_overlapOf_46 : decode cX6_overlapOf 46 = .ok (.iadd, 1) := by decide +kernel
theorem dX6_overlapOf_47 : decode cX6_overlapOf 47 = .ok (.aload_n 0, 1) := by decide +kernel
theorem dX6_overlapOf_48 : decode cX6_overlapOf 48 = .ok (.getfield 30, 3) := by decide +kernel
theorem dX6_overlapOf_51 : decode cX6_overlapOf 51 = .ok (.getfield 101, 3) := by decide +kernel
theorem dX6_overlapOf_54 : decode cX6_overlapOf 54 = .ok (.aload_n 0, 1) := by decide +kernel
theorem dX6_overlapOf_55 : decode cX6_overlapOf 55 = .ok (.getfield 15, 3) := by decide +kernel
theorem dX6_overlapOf_58 : decode cX6_overlapOf 58 = .ok (.iload_n 2, 1) := by decide +kernel
theorem dX6_overlapOf_59 : decode cX6_overlapOf 59 = .ok (.iaload, 1) := by decide +kernel
theorem dX6_overlapOf_60 : decode cX6_overlapOf 60 = .ok (.iload_n 3, 1) := by decide +kernel
theorem dX6_overlapOf_61 : decode cX6_overlapOf 61 = .ok (.invokevirtual 102, 3) := by decide +kernel
theorem dX6_overlapOf_64 : decode cX6_overlapOf 64 = .ok (.ireturn, 1) := by decide +kernel
theorem dX6_widestPair_0 : decode cX6_widestPair 0 = .ok (.iconst (-1), 1) := by decide +kernel
theorem dX6_widestPair_1 : decode cX6_widestPair 1 = .ok (.istore_n 1, 1) := by decide +kernel
theorem dX6_widestPair_2 : decode cX6_widestPair 2 = .ok (.iconst (-1), 1) := by decide +kernel
theorem dX6_widestPair_3 : decode cX6_widestPair 3 = .ok (.istore_n 2, 1) := by decide +kernel
theorem dX6_widestPair_4 : decode cX6_widestPair 4 = .ok (.iconst 0, 1) := by decide +kernel
theorem dX6_widestPair_5 : decode cX6_widestPair 5 = .ok (.istore_n 3, 1) := by decide +kernel
theorem dX6_widestPair_6 : decode cX6_widestPair 6 = .ok (.iload_n 3, 1) := by decide +kernel
theorem dX6_widestPair_7 : decode cX6_widestPair 7 = .ok (.aload_n 0, 1) := by decide +kernel
theorem dX6_widestPair_8 : decode cX6_widestPair 8 = .ok (.getfield 37, 3) := by decide +kernel
theorem dX6_widestPair_11 : decode cX6_widestPair 11 = .ok (.if_icmp .ge 95, 3) := by decide +kernel
theorem dX6_widestPair_14 : decode cX6_widestPair 14 = .ok (.iconst 0, 1) := by decide +kernel
theorem dX6_widestPair_15 : decode cX6_widestPair 15 = .ok (.istore 4, 2) := by decide +kernel
theorem dX6_widestPair_17 : decode cX6_widestPair 17 = .ok (.iload 4, 2) := by decide +kernel
theorem dX6_widestPair_19 : decode cX6_widestPair 19 = .ok (.aload_n 0, 1) := by decide +kernel
theorem dX6_widestPair_20 : decode cX6_widestPair 20 = .ok (.getfield 37, 3) := by decide +kernel
theorem dX6_widestPair_23 : decode cX6_widestPair 23 = .ok (.if_icmp .ge 77, 3) := by decide +kernel
theorem dX6_widestPair_26 : decode cX6_widestPair 26 = .ok (.iload_n 3, 1) := by decide +kernel
theorem dX6_widestPair_27 : decode cX6_widestPair 27 = .ok (.iload 4, 2) := by decide +kernel
theorem dX6_widestPair_29 : decode cX6_widestPair 29 = .ok (.if_icmp .eq 26, 3) := by decide +kernel
theorem dX6_widestPair_32 : decode cX6_widestPair 32 = .ok (.aload_n 0, 1) := by decide +kernel
theorem dX6_widestPair_33 : decode cX6_widestPair 33 = .ok (.getfield 19, 3) := by decide +kernel
theorem dX6_widestPair_36 : decode cX6_widestPair 36 = .ok (.iload_n 3, 1) := by decide +kernel
theorem dX6_widestPair_37 : decode cX6_widestPair 37 = .ok (.iaload, 1) := by decide +kernel
theorem dX6_widestPair_38 : decode cX6_widestPair 38 = .ok (.ifCond .le 17, 3) := by decide +kernel
theorem dX6_widestPair_41 : decode cX6_widestPair 41 = .ok (.aload_n 0, 1) := by decide +kernel
theorem dX6_widestPair_42 : decode cX6_widestPair 42 = .ok (.getfield 19, 3) := by decide +kernel
theorem dX6_widestPair_45 : decode cX6_widestPair 45 = .ok (.iload 4, 2) := by decide +kernel
theorem dX6_widestPair_47 : decode cX6_widestPair 47 = .ok (.iaload, 1) := by decide +kernel
theorem dX6_widestPair_48 : decode cX6_widestPair 48 = .ok (.ifCond .le 7, 3) := by decide +kernel
theorem dX6_widestPair_51 : decode cX6_widestPair 51 = .ok (.iconst 1, 1) := by decide +kernel
theorem dX6_widestPair_52 : decode cX6_widestPair 52 = .ok (.goto 4, 3) := by decide +kernel
theorem dX6_widestPair_55 : decode cX6_widestPair 55 = .ok (.iconst 0, 1) := by decide +kernel
theorem dX6_widestPair_56 : decode cX6_widestPair 56 = .ok (.istore 5, 2) := by decide +kernel
theorem dX6_widestPair_58 : decode cX6_widestPair 58 = .ok (.iload 5, 2) := by decide +kernel
theorem dX6_widestPair_60 : decode cX6_widestPair 60 = .ok (.ifCond .eq 34, 3) := by decide +kernel
theorem dX6_widestPair_63 : decode cX6_widestPair 63 = .ok (.aload_n 0, 1) := by decide +kernel
theorem dX6_widestPair_64 : decode cX6_widestPair 64 = .ok (.getfield 22, 3) := by decide +kernel
theorem dX6_widestPair_67 : decode cX6_widestPair 67 = .ok (.iload_n 3, 1) := by decide +kernel
theorem dX6_widestPair_68 : decode cX6_widestPair 68 = .ok (.bipush 40, 2) := by decide +kernel
theorem dX6_widestPair_70 : decode cX6_widestPair 70 = .ok (.imul, 1) := by decide +kernel
theorem dX6_widestPair_71 : decode cX6_widestPair 71 = .ok (.iload 4, 2) := by decide +kernel
theorem dX6_widestPair_73 : decode cX6_widestPair 73 = .ok (.iadd, 1) := by decide +kernel
theorem dX6_widestPair_74 : decode cX6_widestPair 74 = .ok (.iaload, 1) := by decide +kernel
theorem dX6_widestPair_75 : decode cX6_widestPair 75 = .ok (.iload_n 1, 1) := by decide +kernel
theorem dX6_widestPair_76 : decode cX6_widestPair 76 = .ok (.if_icmp .le 18, 3) := by decide +kernel
theorem dX6_widestPair_79 : decode cX6_widestPair 79 = .ok (.iload_n 3, 1) := by decide +kernel
theorem dX6_widestPair_80 : decode cX6_widestPair 80 = .ok (.bipush 40, 2) := by decide +kernel
theorem dX6_widestPair_82 : decode cX6_widestPair 82 = .ok (.imul, 1) := by decide +kernel
theorem dX6_widestPair_83 : decode cX6_widestPair 83 = .ok (.iload 4, 2) := by decide +kernel
theorem dX6_widestPair_85 : decode cX6_widestPair 85 = .ok (.iadd, 1) := by decide +kernel
theorem dX6_widestPair_86 : decode cX6_widestPair 86 = .ok (.istore_n 2, 1) := by decide +kernel
theorem dX6_widestPair_87 : decode cX6_widestPair 87 = .ok (.aload_n 0, 1) := by decide +kernel
theorem dX6_widestPair_88 : decode cX6_widestPair 88 = .ok (.getfield 22, 3) := by decide +kernel
theorem dX6_widestPair_91 : decode cX6_widestPair 91 = .ok (.iload_n 2, 1) := by decide +kernel
theorem dX6_widestPair_92 : decode cX6_widestPair 92 = .ok (.iaload, 1) := by decide +kernel
theorem dX6_widestPair_93 : decode cX6_widestPair 93 = .ok (.istore_n 1, 1) := by decide +kernel
theorem dX6_widestPair_94 : decode cX6_widestPair 94 = .ok (.iinc 4 1, 3) := by decide +kernel
theorem dX6_widestPair_97 : decode cX6_widestPair 97 = .ok (.goto (-80), 3) := by decide +kernel
theorem dX6_widestPair_100 : decode cX6_widestPair 100 = .ok (.iinc 3 1, 3) := by decide +kernel
theorem dX6_widestPair_103 : decode cX6_widestPair 103 = .ok (.goto (-97), 3) := by decide +kernel
theorem dX6_widestPair_106 : decode cX6_widestPair 106 = .ok (.iload_n 2, 1) := by decide +kernel
theorem dX6_widestPair_107 : decode cX6_widestPair 107 = .ok (.ireturn, 1) := by decide +kernel
set_option maxRecDepth 20000 in
theorem ggX6_join_X6_layOut : GoodIn wsX6_join wsX6_layOut := goodIn_r _ [8, 9, 10, 11, 12, 13, 2, 3, 14, 15, 16, 17, 18, 19, 20, 21, 22, 23, 24, 25, 26, 27, 28, 29, 30, 31, 32, 33, 34, 35, 36, 37, 38] (by decide +kernel) (by decide +kernel)
set_option maxRecDepth 20000 in
theorem gX6_join_X6_layOut : GoodIn wsX6_join (wsV RX6 108 RX6 yX6_layOut wsX6_layOut) := goodIn_app (goodIn_of _ (by decide +kernel)) ggX6_join_X6_layOut
theorem dX6_join_0 : decode cX6_join 0 = .ok (.aload_n 0, 1) := by decide +kernel
theorem dX6_join_1 : decode cX6_join 1 = .ok (.getfield 22, 3) := by decide +kernel
theorem dX6_join_4 : decode cX6_join 4 = .ok (.iload_n 1, 1) := by decide +kernel
theorem dX6_join_5 : decode cX6_join 5 = .ok (.bipush 40, 2) := by decide +kernel
theorem dX6_join_7 : decode cX6_join 7 = .ok (.imul, 1) := by decide +kernel
theorem dX6_join_8 : decode cX6_join 8 = .ok (.iload_n 2, 1) := by decide +kernel
theorem dX6_join_9 : decode cX6_join 9 = .ok (.iadd, 1) := by decide +kernel
theorem dX6_join_10 : decode cX6_join 10 = .ok (.iaload, 1) := by decide +kernel
theorem dX6_join_11 : decode cX6_join 11 = .ok (.istore_n 3, 1) := by decide +kernel
theorem dX6_join_12 : decode cX6_join 12 = .ok (.aload_n 0, 1) := by decide +kernel
theorem dX6_join_13 : decode cX6_join 13 = .ok (.getfield 15, 3) := by decide +kernel
theorem dX6_join_16 : decode cX6_join 16 = .ok (.iload_n 2, 1) := by decide +kernel
theorem dX6_join_17 : decode cX6_join 17 = .ok (.iaload, 1) := by decide +kernel
theorem dX6_join_18 : decode cX6_join 18 = .ok (.iload_n 3, 1) := by decide +kernel
theorem dX6_join_19 : decode cX6_join 19 = .ok (.iadd, 1) := by decide +kernel
theorem dX6_join_20 : decode cX6_join 20 = .ok (.istore 4, 2) := by decide +kernel
theorem dX6_join_22 : decode cX6_join 22 = .ok (.aload_n 0, 1) := by decide +kernel
theorem dX6_join_23 : decode cX6_join 23 = .ok (.getfield 19, 3) := by decide +kernel
theorem dX6_join_26 : decode cX6_join 26 = .ok (.iload_n 2, 1) := by decide +kernel
theorem dX6_join_27 : decode cX6_join 27 = .ok (.iaload, 1) := by decide +kernel
theorem dX6_join_28 : decode cX6_join 28 = .ok (.iload_n 3, 1) := by decide +kernel
theorem dX6_join_29 : decode cX6_join 29 = .ok (.isub, 1) := by decide +kernel
theorem dX6_join_30 : decode cX6_join 30 = .ok (.istore 5, 2) := by decide +kernel
theorem dX6_join_32 : decode cX6_join 32 = .ok (.aload_n 0, 1) := by decide +kernel
theorem dX6_join_33 : decode cX6_join 33 = .ok (.getfield 19, 3) := by decide +kernel
theorem dX6_join_36 : decode cX6_join 36 = .ok (.iload_n 2, 1) := by decide +kernel
theorem dX6_join_37 : decode cX6_join 37 = .ok (.iconst 0, 1) := by decide +kernel
theorem dX6_join_38 : decode cX6_join 38 = .ok (.iastore, 1) := by decide +kernel
theorem dX6_join_39 : decode cX6_join 39 = .ok (.aload_n 0, 1) := by decide +kernel
theorem dX6_join_40 : decode cX6_join 40 = .ok (.iload_n 1, 1) := by decide +kernel
theorem dX6_join_41 : decode cX6_join 41 = .ok (.iload 4, 2) := by decide +kernel
theorem dX6_join_43 : decode cX6_join 43 = .ok (.iload 5, 2) := by decide +kernel
theorem dX6_join_45 : decode cX6_join 45 = .ok (.invokevirtual 108, 3) := by decide +kernel
theorem dX6_join_48 : decode cX6_join 48 = .ok (.return_, 1) := by decide +kernel
set_option maxRecDepth 20000 in
theorem ggX6_layOut_X1_clear : GoodIn wsX6_layOut wsX1_clear := goodIn_r _ [12, 13, 31, 32] (by decide +kernel) (by decide +kernel)
set_option maxRecDepth 20000 in
theorem gX6_layOut_X1_clear : GoodIn wsX6_layOut (wsV RX6 60 RX1 yX1_clear wsX1_clear) := goodIn_app (goodIn_of _ (by decide +kernel)) ggX6_layOut_X1_clear
set_option maxRecDepth 20000 in
theorem ggX6_layOut_X1_appendRun : GoodIn wsX6_layOut wsX1_appendRun := goodIn_r _ [17, 18, 13, 19, 20, 21, 22, 31, 32] (by decide +kernel) (by decide +kernel)
set_option maxRecDepth 20000 in
theorem gX6_layOut_X1_appendRun : GoodIn wsX6_layOut (wsV RX6 88 RX1 yX1_appendRun wsX1_appendRun) := goodIn_app (goodIn_of _ (by decide +kernel)) ggX6_layOut_X1_appendRun
theorem dX6_layOut_0 : decode cX6_layOut 0 = .ok (.aload_n 0, 1) := by decide +kernel
theorem dX6_layOut_1 : decode cX6_layOut 1 = .ok (.getfield 34, 3) := by decide +kernel
theorem dX6_layOut_4 : decode cX6_layOut 4 = .ok (.invokevirtual 60, 3) := by decide +kernel
theorem dX6_layOut_7 : decode cX6_layOut 7 = .ok (.iconst 0, 1) := by decide +kernel
theorem dX6_layOut_8 : decode cX6_layOut 8 = .ok (.istore 4, 2) := by decide +kernel
theorem dX6_layOut_10 : decode cX6_layOut 10 = .ok (.iload 4, 2) := by decide +kernel
theorem dX6_layOut_12 : decode cX6_layOut 12 = .ok (.aload_n 0, 1) := by decide +kernel
theorem dX6_layOut_13 : decode cX6_layOut 13 = .ok (.getfield 37, 3) := by decide +kernel
theorem dX6_layOut_16 : decode cX6_layOut 16 = .ok (.if_icmp .ge 94, 3) := by decide +kernel
theorem dX6_layOut_19 : decode cX6_layOut 19 = .ok (.aload_n 0, 1) := by decide +kernel
theorem dX6_layOut_20 : decode cX6_layOut 20 = .ok (.getfield 34, 3) := by decide +kernel
theorem dX6_layOut_23 : decode cX6_layOut 23 = .ok (.getfield 75, 3) := by decide +kernel
theorem dX6_layOut_26 : decode cX6_layOut 26 = .ok (.istore 5, 2) := by decide +kernel
theorem dX6_layOut_28 : decode cX6_layOut 28 = .ok (.aload_n 0, 1) := by decide +kernel
theorem dX6_layOut_29 : decode cX6_layOut 29 = .ok (.getfield 34, 3) := by decide +kernel
theorem dX6_layOut_32 : decode cX6_layOut 32 = .ok (.aload_n 0, 1) := by decide +kernel
theorem dX6_layOut_33 : decode cX6_layOut 33 = .ok (.getfield 30, 3) := by decide +kernel
theorem dX6_layOut_36 : decode cX6_layOut 36 = .ok (.getfield 101, 3) := by decide +kernel
theorem dX6_layOut_39 : decode cX6_layOut 39 = .ok (.aload_n 0, 1) := by decide +kernel
theorem dX6_layOut_40 : decode cX6_layOut 40 = .ok (.getfield 15, 3) := by decide +kernel
theorem dX6_layOut_43 : decode cX6_layOut 43 = .ok (.iload 4, 2) := by decide +kernel
theorem dX6_layOut_45 : decode cX6_layOut 45 = .ok (.iaload, 1) := by decide +kernel
theorem dX6_layOut_46 : decode cX6_layOut 46 = .ok (.aload_n 0, 1) := by decide +kernel
theorem dX6_layOut_47 : decode cX6_layOut 47 = .ok (.getfield 19, 3) := by decide +kernel
theorem dX6_layOut_50 : decode cX6_layOut 50 = .ok (.iload 4, 2) := by decide +kernel
theorem dX6_layOut_52 : decode cX6_layOut 52 = .ok (.iaload, 1) := by decide +kernel
theorem dX6_layOut_53 : decode cX6_layOut 53 = .ok (.invokevirtual 88, 3) := by decide +kernel
theorem dX6_layOut_56 : decode cX6_layOut 56 = .ok (.iload 4, 2) := by decide +kernel
theorem dX6_layOut_58 : decode cX6_layOut 58 = .ok (.iload_n 1, 1) := by decide +kernel
theorem dX6_layOut_59 : decode cX6_layOut 59 = .ok (.if_icmp .ne 19, 3) := by decide +kernel
theorem dX6_layOut_62 : decode cX6_layOut 62 = .ok (.aload_n 0, 1) := by decide +kernel
theorem dX6_layOut_63 : decode cX6_layOut 63 = .ok (.getfield 34, 3) := by decide +kernel
theorem dX6_layOut_66 : decode cX6_layOut 66 = .ok (.aload_n 0, 1) := by decide +kernel
theorem dX6_layOut_67 : decode cX6_layOut 67 = .ok (.getfield 30, 3) := by decide +kernel
theorem dX6_layOut_70 : decode cX6_layOut 70 = .ok (.getfield 101, 3) := by decide +kernel
theorem dX6_layOut_73 : decode cX6_layOut 73 = .ok (.iload_n 2, 1) := by decide +kernel
theorem dX6_layOut_74 : decode cX6_layOut 74 = .ok (.iload_n 3, 1) := by decide +kernel
theorem dX6_layOut_75 : decode cX6_layOut 75 = .ok (.invokevirtual 88, 3) := by decide +kernel
theorem dX6_layOut_78 : decode cX6_layOut 78 = .ok (.aload_n 0, 1) := by decide +kernel
theorem dX6_layOut_79 : decode cX6_layOut 79 = .ok (.getfield 15, 3) := by decide +kernel
theorem dX6_layOut_82 : decode cX6_layOut 82 = .ok (.iload 4, 2) := by decide +kernel
theorem dX6_layOut_84 : decode cX6_layOut 84 = .ok (.iload 5, 2) := by decide +kernel
theorem dX6_layOut_86 : decode cX6_layOut 86 = .ok (.iastore, 1) := by decide +kernel
theorem dX6_layOut_87 : decode cX6_layOut 87 = .ok (.aload_n 0, 1) := by decide +kernel
theorem dX6_layOut_88 : decode cX6_layOut 88 = .ok (.getfield 19, 3) := by decide +kernel
theorem dX6_layOut_91 : decode cX6_layOut 91 = .ok (.iload 4, 2) := by decide +kernel
theorem dX6_layOut_93 : decode cX6_layOut 93 = .ok (.aload_n 0, 1) := by decide +kernel
theorem dX6_layOut_94 : decode cX6_layOut 94 = .ok (.getfield 34, 3) := by decide +kernel
theorem dX6_layOut_97 : decode cX6_layOut 97 = .ok (.getfield 75, 3) := by decide +kernel
theorem dX6_layOut_100 : decode cX6_layOut 100 = .ok (.iload 5, 2) := by decide +kernel
theorem dX6_layOut_102 : decode cX6_layOut 102 = .ok (.isub, 1) := by decide +kernel
theorem dX6_layOut_103 : decode cX6_layOut 103 = .ok (.iastore, 1) := by decide +kernel
theorem dX6_layOut_104 : decode cX6_layOut 104 = .ok (.iinc 4 1, 3) := by decide +kernel
theorem dX6_layOut_107 : decode cX6_layOut 107 = .ok (.goto (-97), 3) := by decide +kernel
theorem dX6_layOut_110 : decode cX6_layOut 110 = .ok (.aload_n 0, 1) := by decide +kernel
theorem dX6_layOut_111 : decode cX6_layOut 111 = .ok (.getfield 30, 3) := by decide +kernel
theorem dX6_layOut_114 : decode cX6_layOut 114 = .ok (.astore 4, 2) := by decide +kernel
theorem dX6_layOut_116 : decode cX6_layOut 116 = .ok (.aload_n 0, 1) := by decide +kernel
theorem dX6_layOut_117 : decode cX6_layOut 117 = .ok (.aload_n 0, 1) := by decide +kernel
theorem dX6_layOut_118 : decode cX6_layOut 118 = .ok (.getfield 34, 3) := by decide +kernel
theorem dX6_layOut_121 : decode cX6_layOut 121 = .ok (.putfield 30, 3) := by decide +kernel
theorem dX6_layOut_124 : decode cX6_layOut 124 = .ok (.aload_n 0, 1) := by decide +kernel
theorem dX6_layOut_125 : decode cX6_layOut 125 = .ok (.aload 4, 2) := by decide +kernel
theorem dX6_layOut_127 : decode cX6_layOut 127 = .ok (.putfield 34, 3) := by decide +kernel
theorem dX6_layOut_130 : decode cX6_layOut 130 = .ok (.return_, 1) := by decide +kernel
set_option maxRecDepth 20000 in
theorem ggX7_init_X2_init : GoodIn wsX7_init wsX2_init := goodIn_r _ [43, 44, 2, 3] (by decide +kernel) (by decide +kernel)
set_option maxRecDepth 20000 in
theorem gX7_init_X2_init_n11 : GoodIn wsX7_init (wsX2_init) := ggX7_init_X2_init
set_option maxRecDepth 20000 in
theorem ggX7_init_X1_init : GoodIn wsX7_init wsX1_init := goodIn_r _ [47, 48, 2, 3, 49, 50, 51, 52, 35, 53, 54, 116, 117] (by decide +kernel) (by decide +kernel)
set_option maxRecDepth 20000 in
theorem gX7_init_X1_init : GoodIn wsX7_init (wsX1_init) := ggX7_init_X1_init
set_option maxRecDepth 20000 in
theorem ggX7_init_X3_init : GoodIn wsX7_init wsX3_init := goodIn_r _ [57, 58, 2, 3, 59, 35, 60, 61, 62, 63, 64, 65, 66, 118, 119, 120, 121, 122, 123, 124] (by decide +kernel) (by decide +kernel)
set_option maxRecDepth 20000 in
theorem gX7_init_X3_init : GoodIn wsX7_init (wsX3_init) := ggX7_init_X3_init
set_option maxRecDepth 20000 in
theorem ggX7_init_X0_init : GoodIn wsX7_init wsX0_init := goodIn_r _ [69, 70, 2, 3, 35, 71, 72, 125, 126] (by decide +kernel) (by decide +kernel)
set_option maxRecDepth 20000 in
theorem gX7_init_X0_init : GoodIn wsX7_init (wsX0_init) := ggX7_init_X0_init
set_option maxRecDepth 20000 in
theorem ggX7_init_X6_init : GoodIn wsX7_init wsX6_init := goodIn_r _ [75, 76, 2, 3, 77, 35, 78, 79, 80, 81, 9, 10, 82, 83, 84, 85, 86, 46, 47, 48, 49, 50, 51, 52, 53, 54, 127, 128, 129, 130, 131, 132, 133, 134, 116, 117] (by decide +kernel) (by decide +kernel)
set_option maxRecDepth 20000 in
theorem gX7_init_X6_init : GoodIn wsX7_init (wsX6_init) := ggX7_init_X6_init
set_option maxRecDepth 20000 in
theorem ggX7_init_X5_init : GoodIn wsX7_init wsX5_init := goodIn_r _ [89, 90, 2, 3, 37, 91, 135] (by decide +kernel) (by decide +kernel)
set_option maxRecDepth 20000 in
theorem gX7_init_X5_init : GoodIn wsX7_init (wsX5_init) := ggX7_init_X5_init
set_option maxRecDepth 20000 in
theorem ggX7_init_X4_init : GoodIn wsX7_init wsX4_init := goodIn_r _ [94, 95, 2, 3, 96, 50, 51, 52, 35, 97, 98, 99, 136, 137, 138] (by decide +kernel) (by decide +kernel)
set_option maxRecDepth 20000 in
theorem gX7_init_X4_init : GoodIn wsX7_init (wsX4_init) := ggX7_init_X4_init
theorem dX7_init_0 : decode cX7_init 0 = .ok (.aload_n 0, 1) := by decide +kernel
theorem dX7_init_1 : decode cX7_init 1 = .ok (.invokespecial 3, 3) := by decide +kernel
theorem dX7_init_4 : decode cX7_init 4 = .ok (.aload_n 0, 1) := by decide +kernel
theorem dX7_init_5 : decode cX7_init 5 = .ok (.new 9, 3) := by decide +kernel
theorem dX7_init_8 : decode cX7_init 8 = .ok (.dup, 1) := by decide +kernel
theorem dX7_init_9 : decode cX7_init 9 = .ok (.invokespecial 11, 3) := by decide +kernel
theorem dX7_init_12 : decode cX7_init 12 = .ok (.putfield 12, 3) := by decide +kernel
theorem dX7_init_15 : decode cX7_init 15 = .ok (.aload_n 0, 1) := by decide +kernel
theorem dX7_init_16 : decode cX7_init 16 = .ok (.new 16, 3) := by decide +kernel
theorem dX7_init_19 : decode cX7_init 19 = .ok (.dup, 1) := by decide +kernel
theorem dX7_init_20 : decode cX7_init 20 = .ok (.sipush 200, 3) := by decide +kernel
theorem dX7_init_23 : decode cX7_init 23 = .ok (.invokespecial 18, 3) := by decide +kernel
theorem dX7_init_26 : decode cX7_init 26 = .ok (.putfield 21, 3) := by decide +kernel
theorem dX7_init_29 : decode cX7_init 29 = .ok (.aload_n 0, 1) := by decide +kernel
theorem dX7_init_30 : decode cX7_init 30 = .ok (.new 25, 3) := by decide +kernel
theorem dX7_init_33 : decode cX7_init 33 = .ok (.dup, 1) := by decide +kernel
theorem dX7_init_34 : decode cX7_init 34 = .ok (.aload_n 0, 1) := by decide +kernel
theorem dX7_init_35 : decode cX7_init 35 = .ok (.getfield 12, 3) := by decide +kernel
theorem dX7_init_38 : decode cX7_init 38 = .ok (.invokespecial 27, 3) := by decide +kernel
theorem dX7_init_41 : decode cX7_init 41 = .ok (.putfield 30, 3) := by decide +kernel
theorem dX7_init_44 : decode cX7_init 44 = .ok (.aload_n 0, 1) := by decide +kernel
theorem dX7_init_45 : decode cX7_init 45 = .ok (.new 34, 3) := by decide +kernel
theorem dX7_init_48 : decode cX7_init 48 = .ok (.dup, 1) := by decide +kernel
theorem dX7_init_49 : decode cX7_init 49 = .ok (.invokespecial 36, 3) := by decide +kernel
theorem dX7_init_52 : decode cX7_init 52 = .ok (.putfield 37, 3) := by decide +kernel
theorem dX7_init_55 : decode cX7_init 55 = .ok (.aload_n 0, 1) := by decide +kernel
theorem dX7_init_56 : decode cX7_init 56 = .ok (.new 34, 3) := by decide +kernel
theorem dX7_init_59 : decode cX7_init 59 = .ok (.dup, 1) := by decide +kernel
theorem dX7_init_60 : decode cX7_init 60 = .ok (.invokespecial 36, 3) := by decide +kernel
theorem dX7_init_63 : decode cX7_init 63 = .ok (.putfield 41, 3) := by decide +kernel
theorem dX7_init_66 : decode cX7_init 66 = .ok (.aload_n 0, 1) := by decide +kernel
theorem dX7_init_67 : decode cX7_init 67 = .ok (.new 44, 3) := by decide +kernel
theorem dX7_init_70 : decode cX7_init 70 = .ok (.dup, 1) := by decide +kernel
theorem dX7_init_71 : decode cX7_init 71 = .ok (.aload_n 0, 1) := by decide +kernel
theorem dX7_init_72 : decode cX7_init 72 = .ok (.getfield 12, 3) := by decide +kernel
theorem dX7_init_75 : decode cX7_init 75 = .ok (.invokespecial 46, 3) := by decide +kernel
theorem dX7_init_78 : decode cX7_init 78 = .ok (.putfield 47, 3) := by decide +kernel
theorem dX7_init_81 : decode cX7_init 81 = .ok (.aload_n 0, 1) := by decide +kernel
theorem dX7_init_82 : decode cX7_init 82 = .ok (.new 16, 3) := by decide +kernel
theorem dX7_init_85 : decode cX7_init 85 = .ok (.dup, 1) := by decide +kernel
theorem dX7_init_86 : decode cX7_init 86 = .ok (.sipush 600, 3) := by decide +kernel
theorem dX7_init_89 : decode cX7_init 89 = .ok (.invokespecial 18, 3) := by decide +kernel
theorem dX7_init_92 : decode cX7_init 92 = .ok (.putfield 51, 3) := by decide +kernel
theorem dX7_init_95 : decode cX7_init 95 = .ok (.aload_n 0, 1) := by decide +kernel
theorem dX7_init_96 : decode cX7_init 96 = .ok (.new 54, 3) := by decide +kernel
theorem dX7_init_99 : decode cX7_init 99 = .ok (.dup, 1) := by decide +kernel
theorem dX7_init_100 : decode cX7_init 100 = .ok (.invokespecial 56, 3) := by decide +kernel
theorem dX7_init_103 : decode cX7_init 103 = .ok (.putfield 57, 3) := by decide +kernel
theorem dX7_init_106 : decode cX7_init 106 = .ok (.aload_n 0, 1) := by decide +kernel
theorem dX7_init_107 : decode cX7_init 107 = .ok (.new 61, 3) := by decide +kernel
theorem dX7_init_110 : decode cX7_init 110 = .ok (.dup, 1) := by decide +kernel
theorem dX7_init_111 : decode cX7_init 111 = .ok (.sipush 300, 3) := by decide +kernel
theorem dX7_init_114 : decode cX7_init 114 = .ok (.invokespecial 63, 3) := by decide +kernel
theorem dX7_init_117 : decode cX7_init 117 = .ok (.putfield 64, 3) := by decide +kernel
theorem dX7_init_120 : decode cX7_init 120 = .ok (.aload_n 0, 1) := by decide +kernel
theorem dX7_init_121 : decode cX7_init 121 = .ok (.new 61, 3) := by decide +kernel
theorem dX7_init_124 : decode cX7_init 124 = .ok (.dup, 1) := by decide +kernel
theorem dX7_init_125 : decode cX7_init 125 = .ok (.sipush 600, 3) := by decide +kernel
theorem dX7_init_128 : decode cX7_init 128 = .ok (.invokespecial 63, 3) := by decide +kernel
theorem dX7_init_131 : decode cX7_init 131 = .ok (.putfield 68, 3) := by decide +kernel
theorem dX7_init_134 : decode cX7_init 134 = .ok (.aload_n 0, 1) := by decide +kernel
theorem dX7_init_135 : decode cX7_init 135 = .ok (.sipush 600, 3) := by decide +kernel
theorem dX7_init_138 : decode cX7_init 138 = .ok (.newarray .int, 2) := by decide +kernel
theorem dX7_init_140 : decode cX7_init 140 = .ok (.putfield 71, 3) := by decide +kernel
theorem dX7_init_143 : decode cX7_init 143 = .ok (.aload_n 0, 1) := by decide +kernel
theorem dX7_init_144 : decode cX7_init 144 = .ok (.sipush 601, 3) := by decide +kernel
theorem dX7_init_147 : decode cX7_init 147 = .ok (.newarray .long, 2) := by decide +kernel
theorem dX7_init_149 : decode cX7_init 149 = .ok (.putfield 75, 3) := by decide +kernel
theorem dX7_init_152 : decode cX7_init 152 = .ok (.aload_n 0, 1) := by decide +kernel
theorem dX7_init_153 : decode cX7_init 153 = .ok (.iconst 0, 1) := by decide +kernel
theorem dX7_init_154 : decode cX7_init 154 = .ok (.putfield 79, 3) := by decide +kernel
theorem dX7_init_157 : decode cX7_init 157 = .ok (.aload_n 0, 1) := by decide +kernel
theorem dX7_init_158 : decode cX7_init 158 = .ok (.iconst 0, 1) := by decide +kernel
theorem dX7_init_159 : decode cX7_init 159 = .ok (.putfield 83, 3) := by decide +kernel
theorem dX7_init_162 : decode cX7_init 162 = .ok (.aload_n 0, 1) := by decide +kernel
theorem dX7_init_163 : decode cX7_init 163 = .ok (.iconst 0, 1) := by decide +kernel
theorem dX7_init_164 : decode cX7_init 164 = .ok (.putfield 86, 3) := by decide +kernel
theorem dX7_init_167 : decode cX7_init 167 = .ok (.return_, 1) := by decide +kernel
set_option maxRecDepth 20000 in
theorem ggX7_appendBytes_X7_appendFour : GoodIn wsX7_appendBytes wsX7_appendFour := goodIn_r _ [7, 1, 8, 9, 10, 11, 12, 13, 14, 15, 16, 17, 18, 19, 20, 21, 22, 23, 24, 25, 26, 27, 28, 29, 30, 31] (by decide +kernel) (by decide +kernel)
set_option maxRecDepth 20000 in
theorem gX7_appendBytes_X7_appendFour : GoodIn wsX7_appendBytes (wsV RX7 92 RX7 yX7_appendFour wsX7_appendFour) := goodIn_app (goodIn_of _ (by decide +kernel)) ggX7_appendBytes_X7_appendFour
theorem dX7_appendBytes_0 : decode cX7_appendBytes 0 = .ok (.aload_n 0, 1) := by decide +kernel
theorem dX7_appendBytes_1 : decode cX7_appendBytes 1 = .ok (.getfield 21, 3) := by decide +kernel
theorem dX7_appendBytes_4 : decode cX7_appendBytes 4 = .ok (.getfield 89, 3) := by decide +kernel
theorem dX7_appendBytes_7 : decode cX7_appendBytes 7 = .ok (.sipush 180, 3) := by decide +kernel
theorem dX7_appendBytes_10 : decode cX7_appendBytes 10 = .ok (.if_icmp .le 6, 3) := by decide +kernel
theorem dX7_appendBytes_13 : decode cX7_appendBytes 13 = .ok (.bipush (-6), 2) := by decide +kernel
theorem dX7_appendBytes_15 : decode cX7_appendBytes 15 = .ok (.ireturn, 1) := by decide +kernel
theorem dX7_appendBytes_16 : decode cX7_appendBytes 16 = .ok (.aload_n 0, 1) := by decide +kernel
theorem dX7_appendBytes_17 : decode cX7_appendBytes 17 = .ok (.iload_n 1, 1) := by decide +kernel
theorem dX7_appendBytes_18 : decode cX7_appendBytes 18 = .ok (.invokevirtual 92, 3) := by decide +kernel
theorem dX7_appendBytes_21 : decode cX7_appendBytes 21 = .ok (.aload_n 0, 1) := by decide +kernel
theorem dX7_appendBytes_22 : decode cX7_appendBytes 22 = .ok (.iload_n 2, 1) := by decide +kernel
theorem dX7_appendBytes_23 : decode cX7_appendBytes 23 = .ok (.invokevirtual 92, 3) := by decide +kernel
theorem dX7_appendBytes_26 : decode cX7_appendBytes 26 = .ok (.aload_n 0, 1) := by decide +kernel
theorem dX7_appendBytes_27 : decode cX7_appendBytes 27 = .ok (.iload_n 3, 1) := by decide +kernel
theorem dX7_appendBytes_28 : decode cX7_appendBytes 28 = .ok (.invokevirtual 92, 3) := by decide +kernel
theorem dX7_appendBytes_31 : decode cX7_appendBytes 31 = .ok (.aload_n 0, 1) := by decide +kernel
theorem dX7_appendBytes_32 : decode cX7_appendBytes 32 = .ok (.iload 4, 2) := by decide +kernel
theorem dX7_appendBytes_34 : decode cX7_appendBytes 34 = .ok (.invokevirtual 92, 3) := by decide +kernel
theorem dX7_appendBytes_37 : decode cX7_appendBytes 37 = .ok (.aload_n 0, 1) := by decide +kernel
theorem dX7_appendBytes_38 : decode cX7_appendBytes 38 = .ok (.iload 5, 2) := by decide +kernel
theorem dX7_appendBytes_40 : decode cX7_appendBytes 40 = .ok (.invokevirtual 92, 3) := by decide +kernel
theorem dX7_appendBytes_43 : decode cX7_appendBytes 43 = .ok (.aload_n 0, 1) := by decide +kernel
theorem dX7_appendBytes_44 : decode cX7_appendBytes 44 = .ok (.getfield 21, 3) := by decide +kernel
theorem dX7_appendBytes_47 : decode cX7_appendBytes 47 = .ok (.getfield 89, 3) := by decide +kernel
theorem dX7_appendBytes_50 : decode cX7_appendBytes 50 = .ok (.ireturn, 1) := by decide +kernel
set_option maxRecDepth 20000 in
theorem ggX7_appendFour_X1_append : GoodIn wsX7_appendFour wsX1_append := goodIn_r _ [6, 7, 8, 24, 25] (by decide +kernel) (by decide +kernel)
set_option maxRecDepth 20000 in
theorem gX7_appendFour_X1_append : GoodIn wsX7_appendFour (wsV RX7 95 RX1 yX1_append wsX1_append) := goodIn_app (goodIn_of _ (by decide +kernel)) ggX7_appendFour_X1_append
theorem dX7_appendFour_0 : decode cX7_appendFour 0 = .ok (.bipush 24, 2) := by decide +kernel
theorem dX7_appendFour_2 : decode cX7_appendFour 2 = .ok (.istore_n 2, 1) := by decide +kernel
theorem dX7_appendFour_3 : decode cX7_appendFour 3 = .ok (.iload_n 2, 1) := by decide +kernel
theorem dX7_appendFour_4 : decode cX7_appendFour 4 = .ok (.ifCond .lt 23, 3) := by decide +kernel
theorem dX7_appendFour_7 : decode cX7_appendFour 7 = .ok (.aload_n 0, 1) := by decide +kernel
theorem dX7_appendFour_8 : decode cX7_appendFour 8 = .ok (.getfield 21, 3) := by decide +kernel
theorem dX7_appendFour_11 : decode cX7_appendFour 11 = .ok (.iload_n 1, 1) := by decide +kernel
theorem dX7_appendFour_12 : decode cX7_appendFour 12 = .ok (.iload_n 2, 1) := by decide +kernel
theorem dX7_appendFour_13 : decode cX7_appendFour 13 = .ok (.iushr, 1) := by decide +kernel
theorem dX7_appendFour_14 : decode cX7_appendFour 14 = .ok (.sipush 255, 3) := by decide +kernel
theorem dX7_appendFour_17 : decode cX7_appendFour 17 = .ok (.iand, 1) := by decide +kernel
theorem dX7_appendFour_18 : decode cX7_appendFour 18 = .ok (.invokevirtual 95, 3) := by decide +kernel
theorem dX7_appendFour_21 : decode cX7_appendFour 21 = .ok (.iinc 2 (-8), 3) := by decide +kernel
theorem dX7_appendFour_24 : decode cX7_appendFour 24 = .ok (.goto (-21), 3) := by decide +kernel
theorem dX7_appendFour_27 : decode cX7_appendFour 27 = .ok (.return_, 1) := by decide +kernel
theorem dX7_bufferLength_0 : decode cX7_bufferLength 0 = .ok (.aload_n 0, 1) := by decide +kernel
theorem dX7_bufferLength_1 : decode cX7_bufferLength 1 = .ok (.getfield 21, 3) := by decide +kernel
theorem dX7_bufferLength_4 : decode cX7_bufferLength 4 = .ok (.getfield 89, 3) := by decide +kernel
theorem dX7_bufferLength_7 : decode cX7_bufferLength 7 = .ok (.ireturn, 1) := by decide +kernel
theorem dX7_isBufferPart_0 : decode cX7_isBufferPart 0 = .ok (.iload_n 1, 1) := by decide +kernel
theorem dX7_isBufferPart_1 : decode cX7_isBufferPart 1 = .ok (.ifCond .lt 18, 3) := by decide +kernel
theorem dX7_isBufferPart_4 : decode cX7_isBufferPart 4 = .ok (.iload_n 1, 1) := by decide +kernel
theorem dX7_isBufferPart_5 : decode cX7_isBufferPart 5 = .ok (.aload_n 0, 1) := by decide +kernel
theorem dX7_isBufferPart_6 : decode cX7_isBufferPart 6 = .ok (.getfield 21, 3) := by decide +kernel
theorem dX7_isBufferPart_9 : decode cX7_isBufferPart 9 = .ok (.getfield 89, 3) := by decide +kernel
theorem dX7_isBufferPart_12 : decode cX7_isBufferPart 12 = .ok (.if_icmp .gt 7, 3) := by decide +kernel
theorem dX7_isBufferPart_15 : decode cX7_isBufferPart 15 = .ok (.iconst 1, 1) := by decide +kernel
theorem dX7_isBufferPart_16 : decode cX7_isBufferPart 16 = .ok (.goto 4, 3) := by decide +kernel
theorem dX7_isBufferPart_19 : decode cX7_isBufferPart 19 = .ok (.iconst 0, 1) := by decide +kernel
theorem dX7_isBufferPart_20 : decode cX7_isBufferPart 20 = .ok (.ireturn, 1) := by decide +kernel
set_option maxRecDepth 20000 in
theorem ggX7_addKeyword_X7_isBufferPart : GoodIn wsX7_addKeyword wsX7_isBufferPart := goodIn_r _ [10, 2, 11, 128, 129, 130, 131, 132, 133, 134, 135, 136, 137, 138, 139, 140, 141, 142, 143, 144] (by decide +kernel) (by decide +kernel)
set_option maxRecDepth 20000 in
theorem gX7_addKeyword_X7_isBufferPart : GoodIn wsX7_addKeyword (wsV RX7 98 RX7 yX7_isBufferPart wsX7_isBufferPart) := goodIn_app (goodIn_of _ (by decide +kernel)) ggX7_addKeyword_X7_isBufferPart
set_option maxRecDepth 20000 in
theorem ggX7_addKeyword_X7_refusalOf : GoodIn wsX7_addKeyword wsX7_refusalOf := goodIn_r _ [15, 1, 2, 16, 17, 18, 19, 20, 9, 21, 22, 23, 24, 25, 26, 27, 28, 29, 30, 31, 32, 33, 34, 35, 36, 37, 38, 39, 40, 41, 42, 43, 44, 45, 46, 47, 48, 49, 50, 51, 52, 53, 54, 55, 56, 57, 58, 59, 60, 61, 62, 63, 64, 65, 66, 67, 68, 69, 70, 71, 72, 73, 74, 75, 76, 77, 128, 129, 130, 131, 132, 133, 134, 135, 136, 137, 138, 139, 140, 141, 142, 145, 146, 147, 148, 149, 150, 151, 143, 144, 152] (by decide +kernel) (by decide +kernel)
set_option maxRecDepth 20000 in
theorem gX7_addKeyword_X7_refusalOf : GoodIn wsX7_addKeyword (wsV RX7 102 RX7 yX7_refusalOf wsX7_refusalOf) := goodIn_app (goodIn_of _ (by decide +kernel)) ggX7_addKeyword_X7_refusalOf
set_option maxRecDepth 20000 in
theorem ggX7_addKeyword_X3_give : GoodIn wsX7_addKeyword wsX3_give := goodIn_r _ [81, 34, 43, 36, 82, 35, 83, 53, 54, 55, 32, 56, 84, 23, 24, 25, 26, 27, 28, 145, 146, 147, 148, 149, 150, 151, 143, 144] (by decide +kernel) (by decide +kernel)
set_option maxRecDepth 20000 in
theorem gX7_addKeyword_X3_give : GoodIn wsX7_addKeyword (wsV RX7 106 RX3 yX3_give wsX3_give) := goodIn_app (goodIn_of _ (by decide +kernel)) ggX7_addKeyword_X3_give
set_option maxRecDepth 20000 in
theorem ggX7_addKeyword_X0_insert : GoodIn wsX7_addKeyword wsX0_insert := goodIn_r _ [89, 90, 91, 92, 93, 88, 94, 153, 154] (by decide +kernel) (by decide +kernel)
set_option maxRecDepth 20000 in
theorem gX7_addKeyword_X0_insert : GoodIn wsX7_addKeyword (wsV RX7 110 RX0 yX0_insert wsX0_insert) := goodIn_app (goodIn_of _ (by decide +kernel)) ggX7_addKeyword_X0_insert
set_option maxRecDepth 20000 in
theorem ggX7_addKeyword_X7_noteAllMatchesOf : GoodIn wsX7_addKeyword wsX7_noteAllMatchesOf := goodIn_r _ [98, 99, 11, 100, 101, 102, 9, 103, 1, 104, 105, 38, 39, 32, 40, 41, 42, 43, 44, 45, 46, 47, 48, 36, 49, 50, 51, 52, 34, 53, 54, 55, 56, 57, 58, 59, 60, 61, 62, 63, 64, 65, 66, 67, 68, 69, 70, 71, 72, 73, 74, 75, 76, 77, 106, 107, 108, 109, 110, 111, 112, 113, 114, 115, 116, 117, 128, 129, 130, 131, 132, 133, 134, 135, 136, 137, 138, 139, 140, 141, 142, 143, 144, 145, 146, 147, 148, 149, 150, 151, 152, 155] (by decide +kernel) (by decide +kernel)
set_option maxRecDepth 20000 in
theorem gX7_addKeyword_X7_noteAllMatchesOf : GoodIn wsX7_addKeyword (wsV RX7 113 RX7 yX7_noteAllMatchesOf wsX7_noteAllMatchesOf) := goodIn_app (goodIn_of _ (by decide +kernel)) ggX7_addKeyword_X7_noteAllMatchesOf
set_option maxRecDepth 20000 in
theorem ggX7_addKeyword_X6_forget : GoodIn wsX7_addKeyword wsX6_forget := goodIn_r _ [122, 123, 156, 157, 158, 159, 160, 161, 162, 163] (by decide +kernel) (by decide +kernel)
set_option maxRecDepth 20000 in
theorem gX7_addKeyword_X6_forget : GoodIn wsX7_addKeyword (wsV RX7 116 RX6 yX6_forget wsX6_forget) := goodIn_app (goodIn_of _ (by decide +kernel)) ggX7_addKeyword_X6_forget
set_option maxRecDepth 20000 in
theorem ggX7_addKeyword_X1_clear : GoodIn wsX7_addKeyword wsX1_clear := goodIn_r _ [127, 27, 143, 144] (by decide +kernel) (by decide +kernel)
set_option maxRecDepth 20000 in
theorem gX7_addKeyword_X1_clear : GoodIn wsX7_addKeyword (wsV RX7 119 RX1 yX1_clear wsX1_clear) := goodIn_app (goodIn_of _ (by decide +kernel)) ggX7_addKeyword_X1_clear
theorem dX7_addKeyword_0 : decode cX7_addKeyword 0 = .ok (.aload_n 0, 1) := by decide +kernel
theorem dX7_addKeyword_1 : decode cX7_addKeyword 1 = .ok (.iload_n 1, 1) := by decide +kernel
theorem dX7_addKeyword_2 : decode cX7_addKeyword 2 = .ok (.invokevirtual 98, 3) := by decide +kernel
theorem dX7_addKeyword_5 : decode cX7_addKeyword 5 = .ok (.ifCond .eq 14, 3) := by decide +kernel
theorem dX7_addKeyword_8 : decode cX7_addKeyword 8 = .ok (.iload_n 2, 1) := by decide +kernel
theorem dX7_addKeyword_9 : decode cX7_addKeyword 9 = .ok (.iconst 1, 1) := by decide +kernel
theorem dX7_addKeyword_10 : decode cX7_addKeyword 10 = .ok (.if_icmp .lt 9, 3) := by decide +kernel
theorem dX7_addKeyword_13 : decode cX7_addKeyword 13 = .ok (.iload_n 2, 1) := by decide +kernel
theorem dX7_addKeyword_14 : decode cX7_addKeyword 14 = .ok (.bipush 99, 2) := by decide +kernel
theorem dX7_addKeyword_16 : decode cX7_addKeyword 16 = .ok (.if_icmp .le 6, 3) := by decide +kernel
theorem dX7_addKeyword_19 : decode cX7_addKeyword 19 = .ok (.bipush (-3), 2) := by decide +kernel
theorem dX7_addKeyword_21 : decode cX7_addKeyword 21 = .ok (.ireturn, 1) := by decide +kernel
theorem dX7_addKeyword_22 : decode cX7_addKeyword 22 = .ok (.aload_n 0, 1) := by decide +kernel
theorem dX7_addKeyword_23 : decode cX7_addKeyword 23 = .ok (.iload_n 1, 1) := by decide +kernel
theorem dX7_addKeyword_24 : decode cX7_addKeyword 24 = .ok (.invokevirtual 102, 3) := by decide +kernel
theorem dX7_addKeyword_27 : decode cX7_addKeyword 27 = .ok (.istore_n 3, 1) := by decide +kernel
theorem dX7_addKeyword_28 : decode cX7_addKeyword 28 = .ok (.iload_n 3, 1) := by decide +kernel
theorem dX7_addKeyword_29 : decode cX7_addKeyword 29 = .ok (.iconst (-1), 1) := by decide +kernel
theorem dX7_addKeyword_30 : decode cX7_addKeyword 30 = .ok (.if_icmp .ne 46, 3) := by decide +kernel
theorem dX7_addKeyword_33 : decode cX7_addKeyword 33 = .ok (.aload_n 0, 1) := by decide +kernel
theorem dX7_addKeyword_34 : decode cX7_addKeyword 34 = .ok (.getfield 30, 3) := by decide +kernel
theorem dX7_addKeyword_37 : decode cX7_addKeyword 37 = .ok (.aload_n 0, 1) := by decide +kernel
theorem dX7_addKeyword_38 : decode cX7_addKeyword 38 = .ok (.getfield 21, 3) := by decide +kernel
theorem dX7_addKeyword_41 : decode cX7_addKeyword 41 = .ok (.iload_n 1, 1) := by decide +kernel
theorem dX7_addKeyword_42 : decode cX7_addKeyword 42 = .ok (.iload_n 2, 1) := by decide +kernel
theorem dX7_addKeyword_43 : decode cX7_addKeyword 43 = .ok (.invokevirtual 106, 3) := by decide +kernel
theorem dX7_addKeyword_46 : decode cX7_addKeyword 46 = .ok (.istore_n 3, 1) := by decide +kernel
theorem dX7_addKeyword_47 : decode cX7_addKeyword 47 = .ok (.aload_n 0, 1) := by decide +kernel
theorem dX7_addKeyword_48 : decode cX7_addKeyword 48 = .ok (.dup, 1) := by decide +kernel
theorem dX7_addKeyword_49 : decode cX7_addKeyword 49 = .ok (.getfield 79, 3) := by decide +kernel
theorem dX7_addKeyword_52 : decode cX7_addKeyword 52 = .ok (.aload_n 0, 1) := by decide +kernel
theorem dX7_addKeyword_53 : decode cX7_addKeyword 53 = .ok (.getfield 37, 3) := by decide +kernel
theorem dX7_addKeyword_56 : decode cX7_addKeyword 56 = .ok (.iload_n 3, 1) := by decide +kernel
theorem dX7_addKeyword_57 : decode cX7_addKeyword 57 = .ok (.invokevirtual 110, 3) := by decide +kernel
theorem dX7_addKeyword_60 : decode cX7_addKeyword 60 = .ok (.iadd, 1) := by decide +kernel
theorem dX7_addKeyword_61 : decode cX7_addKeyword 61 = .ok (.putfield 79, 3) := by decide +kernel
theorem dX7_addKeyword_64 : decode cX7_addKeyword 64 = .ok (.aload_n 0, 1) := by decide +kernel
theorem dX7_addKeyword_65 : decode cX7_addKeyword 65 = .ok (.iload_n 3, 1) := by decide +kernel
theorem dX7_addKeyword_66 : decode cX7_addKeyword 66 = .ok (.invokevirtual 113, 3) := by decide +kernel
theorem dX7_addKeyword_69 : decode cX7_addKeyword 69 = .ok (.aload_n 0, 1) := by decide +kernel
theorem dX7_addKeyword_70 : decode cX7_addKeyword 70 = .ok (.getfield 47, 3) := by decide +kernel
theorem dX7_addKeyword_73 : decode cX7_addKeyword 73 = .ok (.invokevirtual 116, 3) := by decide +kernel
theorem dX7_addKeyword_76 : decode cX7_addKeyword 76 = .ok (.aload_n 0, 1) := by decide +kernel
theorem dX7_addKeyword_77 : decode cX7_addKeyword 77 = .ok (.getfield 21, 3) := by decide +kernel
theorem dX7_addKeyword_80 : decode cX7_addKeyword 80 = .ok (.invokevirtual 119, 3) := by decide +kernel
theorem dX7_addKeyword_83 : decode cX7_addKeyword 83 = .ok (.iload_n 3, 1) := by decide +kernel
theorem dX7_addKeyword_84 : decode cX7_addKeyword 84 = .ok (.ireturn, 1) := by decide +kernel
set_option maxRecDepth 20000 in
theorem ggX7_refusalOf_X7_isKeywordText : GoodIn wsX7_refusalOf wsX7_isKeywordText := goodIn_r _ [9, 2, 10, 11, 12, 13, 14, 15, 16, 66, 67, 68, 69, 70, 71, 72, 73, 74, 75, 76, 77, 78, 79, 80, 88, 89] (by decide +kernel) (by decide +kernel)
set_option maxRecDepth 20000 in
theorem gX7_refusalOf_X7_isKeywordText : GoodIn wsX7_refusalOf (wsV RX7 122 RX7 yX7_isKeywordText wsX7_isKeywordText) := goodIn_app (goodIn_of _ (by decide +kernel)) ggX7_refusalOf_X7_isKeywordText
set_option maxRecDepth 20000 in
theorem ggX7_refusalOf_X3_findAlive : GoodIn wsX7_refusalOf wsX3_findAlive := goodIn_r _ [21, 22, 23, 24, 25, 26, 27, 20, 28, 29, 30, 31, 32, 33, 34, 35, 36, 37, 38, 39, 40, 41, 42, 43, 44, 45, 46, 47, 48, 49, 50, 51, 52, 53, 54, 55, 56, 57, 58, 59, 60, 61, 62, 63, 64, 65, 81, 82, 83, 84, 85, 86, 87, 88, 89, 90] (by decide +kernel) (by decide +kernel)
set_option maxRecDepth 20000 in
theorem gX7_refusalOf_X3_findAlive : GoodIn wsX7_refusalOf (wsV RX7 125 RX3 yX3_findAlive wsX3_findAlive) := goodIn_app (goodIn_of _ (by decide +kernel)) ggX7_refusalOf_X3_findAlive
theorem dX7_refusalOf_0 : decode cX7_refusalOf 0 = .ok (.aload_n 0, 1) := by decide +kernel
theorem dX7_refusalOf_1 : decode cX7_refusalOf 1 = .ok (.iload_n 1, 1) := by decide +kernel
theorem dX7_refusalOf_2 : decode cX7_refusalOf 2 = .ok (.invokevirtual 122, 3) := by decide +kernel
theorem dX7_refusalOf_5 : decode cX7_refusalOf 5 = .ok (.ifCond .ne 6, 3) := by decide +kernel
theorem dX7_refusalOf_8 : decode cX7_refusalOf 8 = .ok (.bipush (-4), 2) := by decide +kernel
theorem dX7_refusalOf_10 : decode cX7_refusalOf 10 = .ok (.ireturn, 1) := by decide +kernel
theorem dX7_refusalOf_11 : decode cX7_refusalOf 11 = .ok (.aload_n 0, 1) := by decide +kernel
theorem dX7_refusalOf_12 : decode cX7_refusalOf 12 = .ok (.getfield 30, 3) := by decide +kernel
theorem dX7_refusalOf_15 : decode cX7_refusalOf 15 = .ok (.aload_n 0, 1) := by decide +kernel
theorem dX7_refusalOf_16 : decode cX7_refusalOf 16 = .ok (.getfield 21, 3) := by decide +kernel
theorem dX7_refusalOf_19 : decode cX7_refusalOf 19 = .ok (.iload_n 1, 1) := by decide +kernel
theorem dX7_refusalOf_20 : decode cX7_refusalOf 20 = .ok (.invokevirtual 125, 3) := by decide +kernel
theorem dX7_refusalOf_23 : decode cX7_refusalOf 23 = .ok (.iconst (-1), 1) := by decide +kernel
theorem dX7_refusalOf_24 : decode cX7_refusalOf 24 = .ok (.if_icmp .eq 6, 3) := by decide +kernel
theorem dX7_refusalOf_27 : decode cX7_refusalOf 27 = .ok (.bipush (-5), 2) := by decide +kernel
theorem dX7_refusalOf_29 : decode cX7_refusalOf 29 = .ok (.ireturn, 1) := by decide +kernel
theorem dX7_refusalOf_30 : decode cX7_refusalOf 30 = .ok (.aload_n 0, 1) := by decide +kernel
theorem dX7_refusalOf_31 : decode cX7_refusalOf 31 = .ok (.getfield 30, 3) := by decide +kernel
theorem dX7_refusalOf_34 : decode cX7_refusalOf 34 = .ok (.getfield 129, 3) := by decide +kernel
theorem dX7_refusalOf_37 : decode cX7_refusalOf 37 = .ok (.bipush 40, 2) := by decide +kernel
theorem dX7_refusalOf_39 : decode cX7_refusalOf 39 = .ok (.if_icmp .ge 15, 3) := by decide +kernel
theorem dX7_refusalOf_42 : decode cX7_refusalOf 42 = .ok (.aload_n 0, 1) := by decide +kernel
theorem dX7_refusalOf_43 : decode cX7_refusalOf 43 = .ok (.getfield 30, 3) := by decide +kernel
theorem dX7_refusalOf_46 : decode cX7_refusalOf 46 = .ok (.getfield 132, 3) := by decide +kernel
theorem dX7_refusalOf_49 : decode cX7_refusalOf 49 = .ok (.bipush 120, 2) := by decide +kernel
theorem dX7_refusalOf_51 : decode cX7_refusalOf 51 = .ok (.if_icmp .lt 6, 3) := by decide +kernel
theorem dX7_refusalOf_54 : decode cX7_refusalOf 54 = .ok (.bipush (-6), 2) := by decide +kernel
theorem dX7_refusalOf_56 : decode cX7_refusalOf 56 = .ok (.ireturn, 1) := by decide +kernel
theorem dX7_refusalOf_57 : decode cX7_refusalOf 57 = .ok (.iconst (-1), 1) := by decide +kernel
theorem dX7_refusalOf_58 : decode cX7_refusalOf 58 = .ok (.ireturn, 1) := by decide +kernel
set_option maxRecDepth 20000 in
theorem ggX7_isKeywordText_X1_at : GoodIn wsX7_isKeywordText wsX1_at := goodIn_r _ [6, 7, 8, 24, 25] (by decide +kernel) (by decide +kernel)
set_option maxRecDepth 20000 in
theorem gX7_isKeywordText_X1_at : GoodIn wsX7_isKeywordText (wsV RX7 135 RX1 yX1_at wsX1_at) := goodIn_app (goodIn_of _ (by decide +kernel)) ggX7_isKeywordText_X1_at
theorem dX7_isKeywordText_0 : decode cX7_isKeywordText 0 = .ok (.iload_n 1, 1) := by decide +kernel
theorem dX7_isKeywordText_1 : decode cX7_isKeywordText 1 = .ok (.iconst 1, 1) := by decide +kernel
theorem dX7_isKeywordText_2 : decode cX7_isKeywordText 2 = .ok (.if_icmp .lt 9, 3) := by decide +kernel
theorem dX7_isKeywordText_5 : decode cX7_isKeywordText 5 = .ok (.iload_n 1, 1) := by decide +kernel
theorem dX7_isKeywordText_6 : decode cX7_isKeywordText 6 = .ok (.bipush 16, 2) := by decide +kernel
theorem dX7_isKeywordText_8 : decode cX7_isKeywordText 8 = .ok (.if_icmp .le 5, 3) := by decide +kernel
theorem dX7_isKeywordText_11 : decode cX7_isKeywordText 11 = .ok (.iconst 0, 1) := by decide +kernel
theorem dX7_isKeywordText_12 : decode cX7_isKeywordText 12 = .ok (.ireturn, 1) := by decide +kernel
theorem dX7_isKeywordText_13 : decode cX7_isKeywordText 13 = .ok (.iconst 0, 1) := by decide +kernel
theorem dX7_isKeywordText_14 : decode cX7_isKeywordText 14 = .ok (.istore_n 2, 1) := by decide +kernel
theorem dX7_isKeywordText_15 : decode cX7_isKeywordText 15 = .ok (.iload_n 2, 1) := by decide +kernel
theorem dX7_isKeywordText_16 : decode cX7_isKeywordText 16 = .ok (.iload_n 1, 1) := by decide +kernel
theorem dX7_isKeywordText_17 : decode cX7_isKeywordText 17 = .ok (.if_icmp .ge 32, 3) := by decide +kernel
theorem dX7_isKeywordText_20 : decode cX7_isKeywordText 20 = .ok (.aload_n 0, 1) := by decide +kernel
theorem dX7_isKeywordText_21 : decode cX7_isKeywordText 21 = .ok (.getfield 21, 3) := by decide +kernel
theorem dX7_isKeywordText_24 : decode cX7_isKeywordText 24 = .ok (.iload_n 2, 1) := by decide +kernel
theorem dX7_isKeywordText_25 : decode cX7_isKeywordText 25 = .ok (.invokevirtual 135, 3) := by decide +kernel
theorem dX7_isKeywordText_28 : decode cX7_isKeywordText 28 = .ok (.istore_n 3, 1) := by decide +kernel
theorem dX7_isKeywordText_29 : decode cX7_isKeywordText 29 = .ok (.iload_n 3, 1) := by decide +kernel
theorem dX7_isKeywordText_30 : decode cX7_isKeywordText 30 = .ok (.bipush 33, 2) := by decide +kernel
theorem dX7_isKeywordText_32 : decode cX7_isKeywordText 32 = .ok (.if_icmp .lt 9, 3) := by decide +kernel
theorem dX7_isKeywordText_35 : decode cX7_isKeywordText 35 = .ok (.iload_n 3, 1) := by decide +kernel
theorem dX7_isKeywordText_36 : decode cX7_isKeywordText 36 = .ok (.bipush 126, 2) := by decide +kernel
theorem dX7_isKeywordText_38 : decode cX7_isKeywordText 38 = .ok (.if_icmp .le 5, 3) := by decide +kernel
theorem dX7_isKeywordText_41 : decode cX7_isKeywordText 41 = .ok (.iconst 0, 1) := by decide +kernel
theorem dX7_isKeywordText_42 : decode cX7_isKeywordText 42 = .ok (.ireturn, 1) := by decide +kernel
theorem dX7_isKeywordText_43 : decode cX7_isKeywordText 43 = .ok (.iinc 2 1, 3) := by decide +kernel
theorem dX7_isKeywordText_46 : decode cX7_isKeywordText 46 = .ok (.goto (-31), 3) := by decide +kernel
theorem dX7_isKeywordText_49 : decode cX7_isKeywordText 49 = .ok (.iconst 1, 1) := by decide +kernel
theorem dX7_isKeywordText_50 : decode cX7_isKeywordText 50 = .ok (.ireturn, 1) := by decide +kernel
set_option maxRecDepth 20000 in
theorem ggX7_removeKeyword_X3_isAlive : GoodIn wsX7_removeKeyword wsX3_isAlive := goodIn_r _ [12, 13, 14, 15, 16, 11, 17, 18, 96, 97, 98, 99, 100, 101, 102] (by decide +kernel) (by decide +kernel)
set_option maxRecDepth 20000 in
theorem gX7_removeKeyword_X3_isAlive : GoodIn wsX7_removeKeyword (wsV RX7 138 RX3 yX3_isAlive wsX3_isAlive) := goodIn_app (goodIn_of _ (by decide +kernel)) ggX7_removeKeyword_X3_isAlive
set_option maxRecDepth 20000 in
theorem ggX7_removeKeyword_X7_dropAllMatchesOf : GoodIn wsX7_removeKeyword wsX7_dropAllMatchesOf := goodIn_r _ [23, 1, 24, 25, 26, 27, 28, 29, 11, 30, 31, 14, 15, 16, 17, 18, 32, 33, 34, 35, 36, 37, 38, 39, 40, 41, 42, 43, 44, 45, 46, 79, 80, 81, 82, 83, 84, 85, 86, 87, 88, 89, 90, 91, 92, 93, 103, 104, 96, 97, 98, 99, 100, 101, 102, 105] (by decide +kernel) (by decide +kernel)
set_option maxRecDepth 20000 in
theorem gX7_removeKeyword_X7_dropAllMatchesOf : GoodIn wsX7_removeKeyword (wsV RX7 141 RX7 yX7_dropAllMatchesOf wsX7_dropAllMatchesOf) := goodIn_app (goodIn_of _ (by decide +kernel)) ggX7_removeKeyword_X7_dropAllMatchesOf
set_option maxRecDepth 20000 in
theorem ggX7_removeKeyword_X3_retire : GoodIn wsX7_removeKeyword wsX3_retire := goodIn_r _ [50, 13, 51, 52, 9, 10, 11, 12, 14, 15, 16, 17, 18, 96, 97, 98, 99, 100, 101, 102] (by decide +kernel) (by decide +kernel)
set_option maxRecDepth 20000 in
theorem gX7_removeKeyword_X3_retire : GoodIn wsX7_removeKeyword (wsV RX7 144 RX3 yX3_retire wsX3_retire) := goodIn_app (goodIn_of _ (by decide +kernel)) ggX7_removeKeyword_X3_retire
set_option maxRecDepth 20000 in
theorem ggX7_removeKeyword_X6_forget : GoodIn wsX7_removeKeyword wsX6_forget := goodIn_r _ [57, 58, 106, 107, 108, 109, 110, 111, 112, 113] (by decide +kernel) (by decide +kernel)
set_option maxRecDepth 20000 in
theorem gX7_removeKeyword_X6_forget : GoodIn wsX7_removeKeyword (wsV RX7 116 RX6 yX6_forget wsX6_forget) := goodIn_app (goodIn_of _ (by decide +kernel)) ggX7_removeKeyword_X6_forget
set_option maxRecDepth 20000 in
theorem ggX7_removeKeyword_X0_insert : GoodIn wsX7_removeKeyword wsX0_insert := goodIn_r _ [63, 64, 65, 66, 67, 62, 68, 94, 95] (by decide +kernel) (by decide +kernel)
set_option maxRecDepth 20000 in
theorem gX7_removeKeyword_X0_insert : GoodIn wsX7_removeKeyword (wsV RX7 110 RX0 yX0_insert wsX0_insert) := goodIn_app (goodIn_of _ (by decide +kernel)) ggX7_removeKeyword_X0_insert
set_option maxRecDepth 20000 in
theorem ggX7_removeKeyword_X7_rebuild : GoodIn wsX7_removeKeyword wsX7_rebuild := goodIn_r _ [72, 73, 6, 4, 1, 74, 3, 75, 76, 77, 62, 78, 64, 8, 9, 10, 11, 12, 13, 14, 15, 16, 17, 18, 59, 60, 61, 63, 65, 66, 67, 68, 79, 80, 81, 82, 83, 84, 85, 86, 87, 88, 89, 90, 91, 92, 93, 96, 97, 98, 99, 100, 101, 102, 94, 95] (by decide +kernel) (by decide +kernel)
set_option maxRecDepth 20000 in
theorem gX7_removeKeyword_X7_rebuild : GoodIn wsX7_removeKeyword (wsV RX7 150 RX7 yX7_rebuild wsX7_rebuild) := goodIn_app (goodIn_of _ (by decide +kernel)) ggX7_removeKeyword_X7_rebuild
theorem dX7_removeKeyword_0 : decode cX7_removeKeyword 0 = .ok (.aload_n 0, 1) := by decide +kernel
theorem dX7_removeKeyword_1 : decode cX7_removeKeyword 1 = .ok (.getfield 30, 3) := by decide +kernel
theorem dX7_removeKeyword_4 : decode cX7_removeKeyword 4 = .ok (.iload_n 1, 1) := by decide +kernel
theorem dX7_removeKeyword_5 : decode cX7_removeKeyword 5 = .ok (.invokevirtual 138, 3) := by decide +kernel
theorem dX7_removeKeyword_8 : decode cX7_removeKeyword 8 = .ok (.ifCond .ne 6, 3) := by decide +kernel
theorem dX7_removeKeyword_11 : decode cX7_removeKeyword 11 = .ok (.bipush (-2), 2) := by decide +kernel
theorem dX7_removeKeyword_13 : decode cX7_removeKeyword 13 = .ok (.ireturn, 1) := by decide +kernel
theorem dX7_removeKeyword_14 : decode cX7_removeKeyword 14 = .ok (.aload_n 0, 1) := by decide +kernel
theorem dX7_removeKeyword_15 : decode cX7_removeKeyword 15 = .ok (.iload_n 1, 1) := by decide +kernel
theorem dX7_removeKeyword_16 : decode cX7_removeKeyword 16 = .ok (.invokevirtual 141, 3) := by decide +kernel
theorem dX7_removeKeyword_19 : decode cX7_removeKeyword 19 = .ok (.aload_n 0, 1) := by decide +kernel
theorem dX7_removeKeyword_20 : decode cX7_removeKeyword 20 = .ok (.getfield 30, 3) := by decide +kernel
theorem dX7_removeKeyword_23 : decode cX7_removeKeyword 23 = .ok (.iload_n 1, 1) := by decide +kernel
theorem dX7_removeKeyword_24 : decode cX7_removeKeyword 24 = .ok (.invokevirtual 144, 3) := by decide +kernel
theorem dX7_removeKeyword_27 : decode cX7_removeKeyword 27 = .ok (.aload_n 0, 1) := by decide +kernel
theorem dX7_removeKeyword_28 : decode cX7_removeKeyword 28 = .ok (.getfield 47, 3) := by decide +kernel
theorem dX7_removeKeyword_31 : decode cX7_removeKeyword 31 = .ok (.invokevirtual 116, 3) := by decide +kernel
theorem dX7_removeKeyword_34 : decode cX7_removeKeyword 34 = .ok (.aload_n 0, 1) := by decide +kernel
theorem dX7_removeKeyword_35 : decode cX7_removeKeyword 35 = .ok (.dup, 1) := by decide +kernel
theorem dX7_removeKeyword_36 : decode cX7_removeKeyword 36 = .ok (.getfield 79, 3) := by decide +kernel
theorem dX7_removeKeyword_39 : decode cX7_removeKeyword 39 = .ok (.aload_n 0, 1) := by decide +kernel
theorem dX7_removeKeyword_40 : decode cX7_removeKeyword 40 = .ok (.getfield 41, 3) := by decide +kernel
theorem dX7_removeKeyword_43 : decode cX7_removeKeyword 43 = .ok (.iload_n 1, 1) := by decide +kernel
theorem dX7_removeKeyword_44 : decode cX7_removeKeyword 44 = .ok (.invokevirtual 110, 3) := by decide +kernel
theorem dX7_removeKeyword_47 : decode cX7_removeKeyword 47 = .ok (.iadd, 1) := by decide +kernel
theorem dX7_removeKeyword_48 : decode cX7_removeKeyword 48 = .ok (.putfield 79, 3) := by decide +kernel
theorem dX7_removeKeyword_51 : decode cX7_removeKeyword 51 = .ok (.iconst 2, 1) := by decide +kernel
theorem dX7_removeKeyword_52 : decode cX7_removeKeyword 52 = .ok (.aload_n 0, 1) := by decide +kernel
theorem dX7_removeKeyword_53 : decode cX7_removeKeyword 53 = .ok (.getfield 41, 3) := by decide +kernel
theorem dX7_removeKeyword_56 : decode cX7_removeKeyword 56 = .ok (.getfield 147, 3) := by decide +kernel
theorem dX7_removeKeyword_59 : decode cX7_removeKeyword 59 = .ok (.imul, 1) := by decide +kernel
theorem dX7_removeKeyword_60 : decode cX7_removeKeyword 60 = .ok (.aload_n 0, 1) := by decide +kernel
theorem dX7_removeKeyword_61 : decode cX7_removeKeyword 61 = .ok (.getfield 37, 3) := by decide +kernel
theorem dX7_removeKeyword_64 : decode cX7_removeKeyword 64 = .ok (.getfield 147, 3) := by decide +kernel
theorem dX7_removeKeyword_67 : decode cX7_removeKeyword 67 = .ok (.if_icmp .lt 7, 3) := by decide +kernel
theorem dX7_removeKeyword_70 : decode cX7_removeKeyword 70 = .ok (.aload_n 0, 1) := by decide +kernel
theorem dX7_removeKeyword_71 : decode cX7_removeKeyword 71 = .ok (.invokevirtual 150, 3) := by decide +kernel
theorem dX7_removeKeyword_74 : decode cX7_removeKeyword 74 = .ok (.aload_n 0, 1) := by decide +kernel
theorem dX7_removeKeyword_75 : decode cX7_removeKeyword 75 = .ok (.getfield 30, 3) := by decide +kernel
theorem dX7_removeKeyword_78 : decode cX7_removeKeyword 78 = .ok (.getfield 129, 3) := by decide +kernel
theorem dX7_removeKeyword_81 : decode cX7_removeKeyword 81 = .ok (.ireturn, 1) := by decide +kernel
set_option maxRecDepth 20000 in
theorem ggX7_rebuild_X0_clear : GoodIn wsX7_rebuild wsX0_clear := goodIn_r _ [11, 12, 54, 55] (by decide +kernel) (by decide +kernel)
set_option maxRecDepth 20000 in
theorem gX7_rebuild_X0_clear : GoodIn wsX7_rebuild (wsV RX7 153 RX0 yX0_clear wsX0_clear) := goodIn_app (goodIn_of _ (by decide +kernel)) ggX7_rebuild_X0_clear
set_option maxRecDepth 20000 in
theorem ggX7_rebuild_X3_isAlive : GoodIn wsX7_rebuild wsX3_isAlive := goodIn_r _ [17, 18, 19, 20, 21, 16, 22, 23, 47, 48, 49, 50, 51, 52, 53] (by decide +kernel) (by decide +kernel)
set_option maxRecDepth 20000 in
theorem gX7_rebuild_X3_isAlive : GoodIn wsX7_rebuild (wsV RX7 138 RX3 yX3_isAlive wsX3_isAlive) := goodIn_app (goodIn_of _ (by decide +kernel)) ggX7_rebuild_X3_isAlive
set_option maxRecDepth 20000 in
theorem ggX7_rebuild_X0_insert : GoodIn wsX7_rebuild wsX0_insert := goodIn_r _ [27, 12, 28, 29, 30, 10, 31, 54, 55] (by decide +kernel) (by decide +kernel)
set_option maxRecDepth 20000 in
theorem gX7_rebuild_X0_insert : GoodIn wsX7_rebuild (wsV RX7 110 RX0 yX0_insert wsX0_insert) := goodIn_app (goodIn_of _ (by decide +kernel)) ggX7_rebuild_X0_insert
theorem dX7_rebuild_0 : decode cX7_rebuild 0 = .ok (.aload_n 0, 1) := by decide +kernel
theorem dX7_rebuild_1 : decode cX7_rebuild 1 = .ok (.dup, 1) := by decide +kernel
theorem dX7_rebuild_2 : decode cX7_rebuild 2 = .ok (.getfield 83, 3) := by decide +kernel
theorem dX7_rebuild_5 : decode cX7_rebuild 5 = .ok (.iconst 1, 1) := by decide +kernel
theorem dX7_rebuild_6 : decode cX7_rebuild 6 = .ok (.iadd, 1) := by decide +kernel
theorem dX7_rebuild_7 : decode cX7_rebuild 7 = .ok (.putfield 83, 3) := by decide +kernel
theorem dX7_rebuild_10 : decode cX7_rebuild 10 = .ok (.aload_n 0, 1) := by decide +kernel
theorem dX7_rebuild_11 : decode cX7_rebuild 11 = .ok (.getfield 37, 3) := by decide +kernel
theorem dX7_rebuild_14 : decode cX7_rebuild 14 = .ok (.invokevirtual 153, 3) := by decide +kernel
theorem dX7_rebuild_17 : decode cX7_rebuild 17 = .ok (.aload_n 0, 1) := by decide +kernel
theorem dX7_rebuild_18 : decode cX7_rebuild 18 = .ok (.getfield 41, 3) := by decide +kernel
theorem dX7_rebuild_21 : decode cX7_rebuild 21 = .ok (.invokevirtual 153, 3) := by decide +kernel
theorem dX7_rebuild_24 : decode cX7_rebuild 24 = .ok (.iconst 0, 1) := by decide +kernel
theorem dX7_rebuild_25 : decode cX7_rebuild 25 = .ok (.istore_n 1, 1) := by decide +kernel
theorem dX7_rebuild_26 : decode cX7_rebuild 26 = .ok (.iload_n 1, 1) := by decide +kernel
theorem dX7_rebuild_27 : decode cX7_rebuild 27 = .ok (.aload_n 0, 1) := by decide +kernel
theorem dX7_rebuild_28 : decode cX7_rebuild 28 = .ok (.getfield 30, 3) := by decide +kernel
theorem dX7_rebuild_31 : decode cX7_rebuild 31 = .ok (.getfield 132, 3) := by decide +kernel
theorem dX7_rebuild_34 : decode cX7_rebuild 34 = .ok (.if_icmp .ge 37, 3) := by decide +kernel
theorem dX7_rebuild_37 : decode cX7_rebuild 37 = .ok (.aload_n 0, 1) := by decide +kernel
theorem dX7_rebuild_38 : decode cX7_rebuild 38 = .ok (.getfield 30, 3) := by decide +kernel
theorem dX7_rebuild_41 : decode cX7_rebuild 41 = .ok (.iload_n 1, 1) := by decide +kernel
theorem dX7_rebuild_42 : decode cX7_rebuild 42 = .ok (.invokevirtual 138, 3) := by decide +kernel
theorem dX7_rebuild_45 : decode cX7_rebuild 45 = .ok (.ifCond .eq 20, 3) := by decide +kernel
theorem dX7_rebuild_48 : decode cX7_rebuild 48 = .ok (.aload_n 0, 1) := by decide +kernel
theorem dX7_rebuild_49 : decode cX7_rebuild 49 = .ok (.dup, 1) := by decide +kernel
theorem dX7_rebuild_50 : decode cX7_rebuild 50 = .ok (.getfield 79, 3) := by decide +kernel
theorem dX7_rebuild_53 : decode cX7_rebuild 53 = .ok (.aload_n 0, 1) := by decide +kernel
theorem dX7_rebuild_54 : decode cX7_rebuild 54 = .ok (.getfield 37, 3) := by decide +kernel
theorem dX7_rebuild_57 : decode cX7_rebuild 57 = .ok (.iload_n 1, 1) := by decide +kernel
theorem dX7_rebuild_58 : decode cX7_rebuild 58 = .ok (.invokevirtual 110, 3) := by decide +kernel
theorem dX7_rebuild_61 : decode cX7_rebuild 61 = .ok (.iadd, 1) := by decide +kernel
theorem dX7_rebuild_62 : decode cX7_rebuild 62 = .ok (.putfield 79, 3) := by decide +kernel
theorem dX7_rebuild_65 : decode cX7_rebuild 65 = .ok (.iinc 1 1, 3) := by decide +kernel
theorem dX7_rebuild_68 : decode cX7_rebuild 68 = .ok (.goto (-42), 3) := by decide +kernel
theorem dX7_rebuild_71 : decode cX7_rebuild 71 = .ok (.return_, 1) := by decide +kernel
set_option maxRecDepth 20000 in
theorem ggX7_findKeyword_X7_isBufferPart : GoodIn wsX7_findKeyword wsX7_isBufferPart := goodIn_r _ [7, 2, 8, 64, 65, 66, 67, 68, 69, 70, 71, 72, 73, 74, 75, 76, 77, 78, 79, 80] (by decide +kernel) (by decide +kernel)
set_option maxRecDepth 20000 in
theorem gX7_findKeyword_X7_isBufferPart : GoodIn wsX7_findKeyword (wsV RX7 98 RX7 yX7_isBufferPart wsX7_isBufferPart) := goodIn_app (goodIn_of _ (by decide +kernel)) ggX7_findKeyword_X7_isBufferPart
set_option maxRecDepth 20000 in
theorem ggX7_findKeyword_X3_findAlive : GoodIn wsX7_findKeyword wsX3_findAlive := goodIn_r _ [13, 14, 15, 16, 17, 18, 19, 12, 20, 21, 22, 23, 24, 25, 26, 27, 28, 29, 30, 31, 32, 33, 34, 35, 36, 37, 38, 39, 40, 41, 42, 43, 44, 45, 46, 47, 48, 49, 50, 51, 52, 53, 54, 55, 56, 57, 81, 82, 83, 84, 85, 86, 87, 79, 80, 88] (by decide +kernel) (by decide +kernel)
set_option maxRecDepth 20000 in
theorem gX7_findKeyword_X3_findAlive : GoodIn wsX7_findKeyword (wsV RX7 125 RX3 yX3_findAlive wsX3_findAlive) := goodIn_app (goodIn_of _ (by decide +kernel)) ggX7_findKeyword_X3_findAlive
set_option maxRecDepth 20000 in
theorem ggX7_findKeyword_X1_clear : GoodIn wsX7_findKeyword wsX1_clear := goodIn_r _ [62, 63, 79, 80] (by decide +kernel) (by decide +kernel)
set_option maxRecDepth 20000 in
theorem gX7_findKeyword_X1_clear : GoodIn wsX7_findKeyword (wsV RX7 119 RX1 yX1_clear wsX1_clear) := goodIn_app (goodIn_of _ (by decide +kernel)) ggX7_findKeyword_X1_clear
theorem dX7_findKeyword_0 : decode cX7_findKeyword 0 = .ok (.aload_n 0, 1) := by decide +kernel
theorem dX7_findKeyword_1 : decode cX7_findKeyword 1 = .ok (.iload_n 1, 1) := by decide +kernel
theorem dX7_findKeyword_2 : decode cX7_findKeyword 2 = .ok (.invokevirtual 98, 3) := by decide +kernel
theorem dX7_findKeyword_5 : decode cX7_findKeyword 5 = .ok (.ifCond .ne 6, 3) := by decide +kernel
theorem dX7_findKeyword_8 : decode cX7_findKeyword 8 = .ok (.bipush (-3), 2) := by decide +kernel
theorem dX7_findKeyword_10 : decode cX7_findKeyword 10 = .ok (.ireturn, 1) := by decide +kernel
theorem dX7_findKeyword_11 : decode cX7_findKeyword 11 = .ok (.aload_n 0, 1) := by decide +kernel
theorem dX7_findKeyword_12 : decode cX7_findKeyword 12 = .ok (.getfield 30, 3) := by decide +kernel
theorem dX7_findKeyword_15 : decode cX7_findKeyword 15 = .ok (.aload_n 0, 1) := by decide +kernel
theorem dX7_findKeyword_16 : decode cX7_findKeyword 16 = .ok (.getfield 21, 3) := by decide +kernel
theorem dX7_findKeyword_19 : decode cX7_findKeyword 19 = .ok (.iload_n 1, 1) := by decide +kernel
theorem dX7_findKeyword_20 : decode cX7_findKeyword 20 = .ok (.invokevirtual 125, 3) := by decide +kernel
theorem dX7_findKeyword_23 : decode cX7_findKeyword 23 = .ok (.istore_n 2, 1) := by decide +kernel
theorem dX7_findKeyword_24 : decode cX7_findKeyword 24 = .ok (.aload_n 0, 1) := by decide +kernel
theorem dX7_findKeyword_25 : decode cX7_findKeyword 25 = .ok (.getfield 21, 3) := by decide +kernel
theorem dX7_findKeyword_28 : decode cX7_findKeyword 28 = .ok (.invokevirtual 119, 3) := by decide +kernel
theorem dX7_findKeyword_31 : decode cX7_findKeyword 31 = .ok (.iload_n 2, 1) := by decide +kernel
theorem dX7_findKeyword_32 : decode cX7_findKeyword 32 = .ok (.ireturn, 1) := by decide +kernel
set_option maxRecDepth 20000 in
theorem ggX7_keywordLength_X3_isGiven : GoodIn wsX7_keywordLength wsX3_isGiven := goodIn_r _ [6, 7, 29, 30, 31, 32, 33, 34, 35] (by decide +kernel) (by decide +kernel)
set_option maxRecDepth 20000 in
theorem gX7_keywordLength_X3_isGiven : GoodIn wsX7_keywordLength (wsV RX7 154 RX3 yX3_isGiven wsX3_isGiven) := goodIn_app (goodIn_of _ (by decide +kernel)) ggX7_keywordLength_X3_isGiven
set_option maxRecDepth 20000 in
theorem ggX7_keywordLength_X3_lengthOf : GoodIn wsX7_keywordLength wsX3_lengthOf := goodIn_r _ [11, 12, 13, 3, 4, 5, 6, 7, 29, 30, 31, 32, 33, 34, 35] (by decide +kernel) (by decide +kernel)
set_option maxRecDepth 20000 in
theorem gX7_keywordLength_X3_lengthOf : GoodIn wsX7_keywordLength (wsV RX7 157 RX3 yX3_lengthOf wsX3_lengthOf) := goodIn_app (goodIn_of _ (by decide +kernel)) ggX7_keywordLength_X3_lengthOf
theorem dX7_keywordLength_0 : decode cX7_keywordLength 0 = .ok (.aload_n 0, 1) := by decide +kernel
theorem dX7_keywordLength_1 : decode cX7_keywordLength 1 = .ok (.getfield 30, 3) := by decide +kernel
theorem dX7_keywordLength_4 : decode cX7_keywordLength 4 = .ok (.iload_n 1, 1) := by decide +kernel
theorem dX7_keywordLength_5 : decode cX7_keywordLength 5 = .ok (.invokevirtual 154, 3) := by decide +kernel
theorem dX7_keywordLength_8 : decode cX7_keywordLength 8 = .ok (.ifCond .eq 14, 3) := by decide +kernel
theorem dX7_keywordLength_11 : decode cX7_keywordLength 11 = .ok (.aload_n 0, 1) := by decide +kernel
theorem dX7_keywordLength_12 : decode cX7_keywordLength 12 = .ok (.getfield 30, 3) := by decide +kernel
theorem dX7_keywordLength_15 : decode cX7_keywordLength 15 = .ok (.iload_n 1, 1) := by decide +kernel
theorem dX7_keywordLength_16 : decode cX7_keywordLength 16 = .ok (.invokevirtual 157, 3) := by decide +kernel
theorem dX7_keywordLength_19 : decode cX7_keywordLength 19 = .ok (.goto 5, 3) := by decide +kernel
theorem dX7_keywordLength_22 : decode cX7_keywordLength 22 = .ok (.bipush (-2), 2) := by decide +kernel
theorem dX7_keywordLength_24 : decode cX7_keywordLength 24 = .ok (.ireturn, 1) := by decide +kernel
set_option maxRecDepth 20000 in
theorem ggX7_keywordByte_X3_isGiven : GoodIn wsX7_keywordByte wsX3_isGiven := goodIn_r _ [6, 7, 38, 39, 40, 41, 42, 43, 44] (by decide +kernel) (by decide +kernel)
set_option maxRecDepth 20000 in
theorem gX7_keywordByte_X3_isGiven : GoodIn wsX7_keywordByte (wsV RX7 154 RX3 yX3_isGiven wsX3_isGiven) := goodIn_app (goodIn_of _ (by decide +kernel)) ggX7_keywordByte_X3_isGiven
set_option maxRecDepth 20000 in
theorem ggX7_keywordByte_X3_byteOf : GoodIn wsX7_keywordByte wsX3_byteOf := goodIn_r _ [11, 12, 13, 14, 15, 5, 16, 17, 18, 3, 4, 6, 7, 19, 20, 21, 22, 38, 39, 40, 41, 42, 43, 44] (by decide +kernel) (by decide +kernel)
set_option maxRecDepth 20000 in
theorem gX7_keywordByte_X3_byteOf : GoodIn wsX7_keywordByte (wsV RX7 160 RX3 yX3_byteOf wsX3_byteOf) := goodIn_app (goodIn_of _ (by decide +kernel)) ggX7_keywordByte_X3_byteOf
theorem dX7_keywordByte_0 : decode cX7_keywordByte 0 = .ok (.aload_n 0, 1) := by decide +kernel
