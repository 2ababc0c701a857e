theorem dX7_containedMatches_19 : decode cX7_containedMatches 19 = .ok (.iload_n 3, 1) := by decide +kernel
theorem dX7_containedMatches_20 : decode cX7_containedMatches 20 = .ok (.iload_n 2, 1) := by decide +kernel
theorem dX7_containedMatches_21 : decode cX7_containedMatches 21 = .ok (.invokevirtual 261, 3) := by decide +kernel
theorem dX7_containedMatches_24 : decode cX7_containedMatches 24 = .ok (.iadd, 1) := by decide +kernel
theorem dX7_containedMatches_25 : decode cX7_containedMatches 25 = .ok (.istore_n 1, 1) := by decide +kernel
theorem dX7_containedMatches_26 : decode cX7_containedMatches 26 = .ok (.iload_n 2, 1) := by decide +kernel
theorem dX7_containedMatches_27 : decode cX7_containedMatches 27 = .ok (.iload_n 3, 1) := by decide +kernel
theorem dX7_containedMatches_28 : decode cX7_containedMatches 28 = .ok (.aload_n 0, 1) := by decide +kernel
theorem dX7_containedMatches_29 : decode cX7_containedMatches 29 = .ok (.getfield 57, 3) := by decide +kernel
theorem dX7_containedMatches_32 : decode cX7_containedMatches 32 = .ok (.iload_n 3, 1) := by decide +kernel
theorem dX7_containedMatches_33 : decode cX7_containedMatches 33 = .ok (.invokevirtual 264, 3) := by decide +kernel
theorem dX7_containedMatches_36 : decode cX7_containedMatches 36 = .ok (.iadd, 1) := by decide +kernel
theorem dX7_containedMatches_37 : decode cX7_containedMatches 37 = .ok (.iconst 1, 1) := by decide +kernel
theorem dX7_containedMatches_38 : decode cX7_containedMatches 38 = .ok (.isub, 1) := by decide +kernel
theorem dX7_containedMatches_39 : decode cX7_containedMatches 39 = .ok (.invokestatic 189, 3) := by decide +kernel
theorem dX7_containedMatches_42 : decode cX7_containedMatches 42 = .ok (.istore_n 2, 1) := by decide +kernel
theorem dX7_containedMatches_43 : decode cX7_containedMatches 43 = .ok (.iinc 3 1, 3) := by decide +kernel
theorem dX7_containedMatches_46 : decode cX7_containedMatches 46 = .ok (.goto (-40), 3) := by decide +kernel
theorem dX7_containedMatches_49 : decode cX7_containedMatches 49 = .ok (.iload_n 1, 1) := by decide +kernel
theorem dX7_containedMatches_50 : decode cX7_containedMatches 50 = .ok (.ireturn, 1) := by decide +kernel
set_option maxRecDepth 20000 in
theorem ggX7_containedFrom_X5_longestFrom : GoodIn wsX7_containedFrom wsX5_longestFrom := goodIn_r _ [6, 7, 8, 9, 5, 10, 11, 12, 13, 14, 15, 32] (by decide +kernel) (by decide +kernel)
set_option maxRecDepth 20000 in
theorem gX7_containedFrom_X5_longestFrom : GoodIn wsX7_containedFrom (wsV RX7 264 RX5 yX5_longestFrom wsX5_longestFrom) := goodIn_app (goodIn_of _ (by decide +kernel)) ggX7_containedFrom_X5_longestFrom
set_option maxRecDepth 20000 in
theorem ggX7_containedFrom_X5_at : GoodIn wsX7_containedFrom wsX5_at := goodIn_r _ [10, 11, 12, 13, 14, 5, 15, 32] (by decide +kernel) (by decide +kernel)
set_option maxRecDepth 20000 in
theorem gX7_containedFrom_X5_at : GoodIn wsX7_containedFrom (wsV RX7 239 RX5 yX5_at wsX5_at) := goodIn_app (goodIn_of _ (by decide +kernel)) ggX7_containedFrom_X5_at
theorem dX7_containedFrom_0 : decode cX7_containedFrom 0 = .ok (.aload_n 0, 1) := by decide +kernel
theorem dX7_containedFrom_1 : decode cX7_containedFrom 1 = .ok (.getfield 57, 3) := by decide +kernel
theorem dX7_containedFrom_4 : decode cX7_containedFrom 4 = .ok (.iload_n 1, 1) := by decide +kernel
theorem dX7_containedFrom_5 : decode cX7_containedFrom 5 = .ok (.invokevirtual 264, 3) := by decide +kernel
theorem dX7_containedFrom_8 : decode cX7_containedFrom 8 = .ok (.istore_n 3, 1) := by decide +kernel
theorem dX7_containedFrom_9 : decode cX7_containedFrom 9 = .ok (.iconst 0, 1) := by decide +kernel
theorem dX7_containedFrom_10 : decode cX7_containedFrom 10 = .ok (.istore 4, 2) := by decide +kernel
theorem dX7_containedFrom_12 : decode cX7_containedFrom 12 = .ok (.iconst 1, 1) := by decide +kernel
theorem dX7_containedFrom_13 : decode cX7_containedFrom 13 = .ok (.istore 5, 2) := by decide +kernel
theorem dX7_containedFrom_15 : decode cX7_containedFrom 15 = .ok (.iload 5, 2) := by decide +kernel
theorem dX7_containedFrom_17 : decode cX7_containedFrom 17 = .ok (.iload_n 3, 1) := by decide +kernel
theorem dX7_containedFrom_18 : decode cX7_containedFrom 18 = .ok (.if_icmp .gt 54, 3) := by decide +kernel
theorem dX7_containedFrom_21 : decode cX7_containedFrom 21 = .ok (.iload 5, 2) := by decide +kernel
theorem dX7_containedFrom_23 : decode cX7_containedFrom 23 = .ok (.iload_n 3, 1) := by decide +kernel
theorem dX7_containedFrom_24 : decode cX7_containedFrom 24 = .ok (.if_icmp .lt 13, 3) := by decide +kernel
theorem dX7_containedFrom_27 : decode cX7_containedFrom 27 = .ok (.iload_n 1, 1) := by decide +kernel
theorem dX7_containedFrom_28 : decode cX7_containedFrom 28 = .ok (.iload 5, 2) := by decide +kernel
theorem dX7_containedFrom_30 : decode cX7_containedFrom 30 = .ok (.iadd, 1) := by decide +kernel
theorem dX7_containedFrom_31 : decode cX7_containedFrom 31 = .ok (.iconst 1, 1) := by decide +kernel
theorem dX7_containedFrom_32 : decode cX7_containedFrom 32 = .ok (.isub, 1) := by decide +kernel
theorem dX7_containedFrom_33 : decode cX7_containedFrom 33 = .ok (.iload_n 2, 1) := by decide +kernel
theorem dX7_containedFrom_34 : decode cX7_containedFrom 34 = .ok (.if_icmp .gt 7, 3) := by decide +kernel
theorem dX7_containedFrom_37 : decode cX7_containedFrom 37 = .ok (.iconst 1, 1) := by decide +kernel
theorem dX7_containedFrom_38 : decode cX7_containedFrom 38 = .ok (.goto 4, 3) := by decide +kernel
theorem dX7_containedFrom_41 : decode cX7_containedFrom 41 = .ok (.iconst 0, 1) := by decide +kernel
theorem dX7_containedFrom_42 : decode cX7_containedFrom 42 = .ok (.istore 6, 2) := by decide +kernel
theorem dX7_containedFrom_44 : decode cX7_containedFrom 44 = .ok (.iload 6, 2) := by decide +kernel
theorem dX7_containedFrom_46 : decode cX7_containedFrom 46 = .ok (.ifCond .eq 20, 3) := by decide +kernel
theorem dX7_containedFrom_49 : decode cX7_containedFrom 49 = .ok (.aload_n 0, 1) := by decide +kernel
theorem dX7_containedFrom_50 : decode cX7_containedFrom 50 = .ok (.getfield 57, 3) := by decide +kernel
theorem dX7_containedFrom_53 : decode cX7_containedFrom 53 = .ok (.iload_n 1, 1) := by decide +kernel
theorem dX7_containedFrom_54 : decode cX7_containedFrom 54 = .ok (.iload 5, 2) := by decide +kernel
theorem dX7_containedFrom_56 : decode cX7_containedFrom 56 = .ok (.invokevirtual 239, 3) := by decide +kernel
theorem dX7_containedFrom_59 : decode cX7_containedFrom 59 = .ok (.iconst (-1), 1) := by decide +kernel
theorem dX7_containedFrom_60 : decode cX7_containedFrom 60 = .ok (.if_icmp .eq 6, 3) := by decide +kernel
theorem dX7_containedFrom_63 : decode cX7_containedFrom 63 = .ok (.iinc 4 1, 3) := by decide +kernel
theorem dX7_containedFrom_66 : decode cX7_containedFrom 66 = .ok (.iinc 5 1, 3) := by decide +kernel
theorem dX7_containedFrom_69 : decode cX7_containedFrom 69 = .ok (.goto (-54), 3) := by decide +kernel
theorem dX7_containedFrom_72 : decode cX7_containedFrom 72 = .ok (.iload 4, 2) := by decide +kernel
theorem dX7_containedFrom_74 : decode cX7_containedFrom 74 = .ok (.ireturn, 1) := by decide +kernel
set_option maxRecDepth 20000 in
theorem ggX7_gapLength_X7_measureDepths : GoodIn wsX7_gapLength wsX7_measureDepths := goodIn_r _ [12, 1, 2, 13, 3, 14, 15, 16, 17, 18, 19, 20, 21, 22, 23, 24, 25, 26, 27, 28, 29, 30, 31, 32, 33, 34, 35, 36, 37, 38, 39, 40, 41, 42, 43, 44, 45, 46, 47, 48, 49] (by decide +kernel) (by decide +kernel)
set_option maxRecDepth 20000 in
theorem gX7_gapLength_X7_measureDepths : GoodIn wsX7_gapLength (wsV RX7 255 RX7 yX7_measureDepths wsX7_measureDepths) := goodIn_app (goodIn_of _ (by decide +kernel)) ggX7_gapLength_X7_measureDepths
theorem dX7_gapLength_0 : decode cX7_gapLength 0 = .ok (.aload_n 0, 1) := by decide +kernel
theorem dX7_gapLength_1 : decode cX7_gapLength 1 = .ok (.invokevirtual 255, 3) := by decide +kernel
theorem dX7_gapLength_4 : decode cX7_gapLength 4 = .ok (.iconst 0, 1) := by decide +kernel
theorem dX7_gapLength_5 : decode cX7_gapLength 5 = .ok (.istore_n 1, 1) := by decide +kernel
theorem dX7_gapLength_6 : decode cX7_gapLength 6 = .ok (.iconst 0, 1) := by decide +kernel
theorem dX7_gapLength_7 : decode cX7_gapLength 7 = .ok (.istore_n 2, 1) := by decide +kernel
theorem dX7_gapLength_8 : decode cX7_gapLength 8 = .ok (.iconst 0, 1) := by decide +kernel
theorem dX7_gapLength_9 : decode cX7_gapLength 9 = .ok (.istore_n 3, 1) := by decide +kernel
theorem dX7_gapLength_10 : decode cX7_gapLength 10 = .ok (.iload_n 3, 1) := by decide +kernel
theorem dX7_gapLength_11 : decode cX7_gapLength 11 = .ok (.aload_n 0, 1) := by decide +kernel
theorem dX7_gapLength_12 : decode cX7_gapLength 12 = .ok (.getfield 51, 3) := by decide +kernel
theorem dX7_gapLength_15 : decode cX7_gapLength 15 = .ok (.getfield 89, 3) := by decide +kernel
theorem dX7_gapLength_18 : decode cX7_gapLength 18 = .ok (.if_icmp .ge 32, 3) := by decide +kernel
theorem dX7_gapLength_21 : decode cX7_gapLength 21 = .ok (.aload_n 0, 1) := by decide +kernel
theorem dX7_gapLength_22 : decode cX7_gapLength 22 = .ok (.getfield 71, 3) := by decide +kernel
theorem dX7_gapLength_25 : decode cX7_gapLength 25 = .ok (.iload_n 3, 1) := by decide +kernel
theorem dX7_gapLength_26 : decode cX7_gapLength 26 = .ok (.iaload, 1) := by decide +kernel
theorem dX7_gapLength_27 : decode cX7_gapLength 27 = .ok (.ifCond .ne 9, 3) := by decide +kernel
theorem dX7_gapLength_30 : decode cX7_gapLength 30 = .ok (.iload_n 2, 1) := by decide +kernel
theorem dX7_gapLength_31 : decode cX7_gapLength 31 = .ok (.iconst 1, 1) := by decide +kernel
theorem dX7_gapLength_32 : decode cX7_gapLength 32 = .ok (.iadd, 1) := by decide +kernel
theorem dX7_gapLength_33 : decode cX7_gapLength 33 = .ok (.goto 4, 3) := by decide +kernel
theorem dX7_gapLength_36 : decode cX7_gapLength 36 = .ok (.iconst 0, 1) := by decide +kernel
theorem dX7_gapLength_37 : decode cX7_gapLength 37 = .ok (.istore_n 2, 1) := by decide +kernel
theorem dX7_gapLength_38 : decode cX7_gapLength 38 = .ok (.iload_n 1, 1) := by decide +kernel
theorem dX7_gapLength_39 : decode cX7_gapLength 39 = .ok (.iload_n 2, 1) := by decide +kernel
theorem dX7_gapLength_40 : decode cX7_gapLength 40 = .ok (.invokestatic 189, 3) := by decide +kernel
theorem dX7_gapLength_43 : decode cX7_gapLength 43 = .ok (.istore_n 1, 1) := by decide +kernel
theorem dX7_gapLength_44 : decode cX7_gapLength 44 = .ok (.iinc 3 1, 3) := by decide +kernel
theorem dX7_gapLength_47 : decode cX7_gapLength 47 = .ok (.goto (-37), 3) := by decide +kernel
theorem dX7_gapLength_50 : decode cX7_gapLength 50 = .ok (.iload_n 1, 1) := by decide +kernel
theorem dX7_gapLength_51 : decode cX7_gapLength 51 = .ok (.ireturn, 1) := by decide +kernel
set_option maxRecDepth 20000 in
theorem ggX7_gapStart_X7_gapLength : GoodIn wsX7_gapStart wsX7_gapLength := goodIn_r _ [8, 1, 2, 3, 9, 10, 11, 12, 13, 14, 15, 7, 16, 17, 18, 19, 20, 21, 22, 23, 24, 25, 26, 27, 28, 29, 30, 31, 32, 33, 34, 35, 36, 37, 38, 39, 40, 41, 42, 43, 44, 45, 46, 47, 48, 49, 50, 51, 52, 53] (by decide +kernel) (by decide +kernel)
set_option maxRecDepth 20000 in
theorem gX7_gapStart_X7_gapLength : GoodIn wsX7_gapStart (wsV RX7 267 RX7 yX7_gapLength wsX7_gapLength) := goodIn_app (goodIn_of _ (by decide +kernel)) ggX7_gapStart_X7_gapLength
theorem dX7_gapStart_0 : decode cX7_gapStart 0 = .ok (.aload_n 0, 1) := by decide +kernel
theorem dX7_gapStart_1 : decode cX7_gapStart 1 = .ok (.invokevirtual 267, 3) := by decide +kernel
theorem dX7_gapStart_4 : decode cX7_gapStart 4 = .ok (.istore_n 1, 1) := by decide +kernel
theorem dX7_gapStart_5 : decode cX7_gapStart 5 = .ok (.iconst 0, 1) := by decide +kernel
theorem dX7_gapStart_6 : decode cX7_gapStart 6 = .ok (.istore_n 2, 1) := by decide +kernel
theorem dX7_gapStart_7 : decode cX7_gapStart 7 = .ok (.iconst 0, 1) := by decide +kernel
theorem dX7_gapStart_8 : decode cX7_gapStart 8 = .ok (.istore_n 3, 1) := by decide +kernel
theorem dX7_gapStart_9 : decode cX7_gapStart 9 = .ok (.iload_n 3, 1) := by decide +kernel
theorem dX7_gapStart_10 : decode cX7_gapStart 10 = .ok (.aload_n 0, 1) := by decide +kernel
theorem dX7_gapStart_11 : decode cX7_gapStart 11 = .ok (.getfield 51, 3) := by decide +kernel
theorem dX7_gapStart_14 : decode cX7_gapStart 14 = .ok (.getfield 89, 3) := by decide +kernel
theorem dX7_gapStart_17 : decode cX7_gapStart 17 = .ok (.if_icmp .ge 41, 3) := by decide +kernel
theorem dX7_gapStart_20 : decode cX7_gapStart 20 = .ok (.aload_n 0, 1) := by decide +kernel
theorem dX7_gapStart_21 : decode cX7_gapStart 21 = .ok (.getfield 71, 3) := by decide +kernel
theorem dX7_gapStart_24 : decode cX7_gapStart 24 = .ok (.iload_n 3, 1) := by decide +kernel
theorem dX7_gapStart_25 : decode cX7_gapStart 25 = .ok (.iaload, 1) := by decide +kernel
theorem dX7_gapStart_26 : decode cX7_gapStart 26 = .ok (.ifCond .ne 9, 3) := by decide +kernel
theorem dX7_gapStart_29 : decode cX7_gapStart 29 = .ok (.iload_n 2, 1) := by decide +kernel
theorem dX7_gapStart_30 : decode cX7_gapStart 30 = .ok (.iconst 1, 1) := by decide +kernel
theorem dX7_gapStart_31 : decode cX7_gapStart 31 = .ok (.iadd, 1) := by decide +kernel
theorem dX7_gapStart_32 : decode cX7_gapStart 32 = .ok (.goto 4, 3) := by decide +kernel
theorem dX7_gapStart_35 : decode cX7_gapStart 35 = .ok (.iconst 0, 1) := by decide +kernel
theorem dX7_gapStart_36 : decode cX7_gapStart 36 = .ok (.istore_n 2, 1) := by decide +kernel
theorem dX7_gapStart_37 : decode cX7_gapStart 37 = .ok (.iload_n 2, 1) := by decide +kernel
theorem dX7_gapStart_38 : decode cX7_gapStart 38 = .ok (.ifCond .le 14, 3) := by decide +kernel
theorem dX7_gapStart_41 : decode cX7_gapStart 41 = .ok (.iload_n 2, 1) := by decide +kernel
theorem dX7_gapStart_42 : decode cX7_gapStart 42 = .ok (.iload_n 1, 1) := by decide +kernel
theorem dX7_gapStart_43 : decode cX7_gapStart 43 = .ok (.if_icmp .ne 9, 3) := by decide +kernel
theorem dX7_gapStart_46 : decode cX7_gapStart 46 = .ok (.iload_n 3, 1) := by decide +kernel
theorem dX7_gapStart_47 : decode cX7_gapStart 47 = .ok (.iload_n 2, 1) := by decide +kernel
theorem dX7_gapStart_48 : decode cX7_gapStart 48 = .ok (.isub, 1) := by decide +kernel
theorem dX7_gapStart_49 : decode cX7_gapStart 49 = .ok (.iconst 1, 1) := by decide +kernel
theorem dX7_gapStart_50 : decode cX7_gapStart 50 = .ok (.iadd, 1) := by decide +kernel
theorem dX7_gapStart_51 : decode cX7_gapStart 51 = .ok (.ireturn, 1) := by decide +kernel
theorem dX7_gapStart_52 : decode cX7_gapStart 52 = .ok (.iinc 3 1, 3) := by decide +kernel
theorem dX7_gapStart_55 : decode cX7_gapStart 55 = .ok (.goto (-46), 3) := by decide +kernel
theorem dX7_gapStart_58 : decode cX7_gapStart 58 = .ok (.iconst (-1), 1) := by decide +kernel
theorem dX7_gapStart_59 : decode cX7_gapStart 59 = .ok (.ireturn, 1) := by decide +kernel
set_option maxRecDepth 20000 in
theorem ggX7_overlapLength_X3_isGiven : GoodIn wsX7_overlapLength wsX3_isGiven := goodIn_r _ [12, 13, 57, 58, 59, 60, 61, 62, 63] (by decide +kernel) (by decide +kernel)
set_option maxRecDepth 20000 in
theorem gX7_overlapLength_X3_isGiven : GoodIn wsX7_overlapLength (wsV RX7 154 RX3 yX3_isGiven wsX3_isGiven) := goodIn_app (goodIn_of _ (by decide +kernel)) ggX7_overlapLength_X3_isGiven
set_option maxRecDepth 20000 in
theorem ggX7_overlapLength_X3_firstByteOf : GoodIn wsX7_overlapLength wsX3_firstByteOf := goodIn_r _ [17] (by decide +kernel) (by decide +kernel)
set_option maxRecDepth 20000 in
theorem gX7_overlapLength_X3_firstByteOf : GoodIn wsX7_overlapLength (wsV RX7 208 RX3 yX3_firstByteOf wsX3_firstByteOf) := goodIn_app (goodIn_of _ (by decide +kernel)) ggX7_overlapLength_X3_firstByteOf
set_option maxRecDepth 20000 in
theorem ggX7_overlapLength_X3_lengthOf : GoodIn wsX7_overlapLength wsX3_lengthOf := goodIn_r _ [21, 22, 23, 9, 10, 11, 12, 13, 57, 58, 59, 60, 61, 62, 63] (by decide +kernel) (by decide +kernel)
set_option maxRecDepth 20000 in
theorem gX7_overlapLength_X3_lengthOf : GoodIn wsX7_overlapLength (wsV RX7 157 RX3 yX3_lengthOf wsX3_lengthOf) := goodIn_app (goodIn_of _ (by decide +kernel)) ggX7_overlapLength_X3_lengthOf
set_option maxRecDepth 20000 in
theorem ggX7_overlapLength_X2_overlap : GoodIn wsX7_overlapLength wsX2_overlap := goodIn_r _ [28, 29, 30, 31, 27, 32, 33, 3, 4, 5, 34, 35, 36, 37, 38, 39, 40, 41, 64] (by decide +kernel) (by decide +kernel)
set_option maxRecDepth 20000 in
theorem gX7_overlapLength_X2_overlap : GoodIn wsX7_overlapLength (wsV RX7 271 RX2 yX2_overlap wsX2_overlap) := goodIn_app (goodIn_of _ (by decide +kernel)) ggX7_overlapLength_X2_overlap
theorem dX7_overlapLength_0 : decode cX7_overlapLength 0 = .ok (.aload_n 0, 1) := by decide +kernel
theorem dX7_overlapLength_1 : decode cX7_overlapLength 1 = .ok (.getfield 30, 3) := by decide +kernel
theorem dX7_overlapLength_4 : decode cX7_overlapLength 4 = .ok (.iload_n 1, 1) := by decide +kernel
theorem dX7_overlapLength_5 : decode cX7_overlapLength 5 = .ok (.invokevirtual 154, 3) := by decide +kernel
theorem dX7_overlapLength_8 : decode cX7_overlapLength 8 = .ok (.ifCond .eq 14, 3) := by decide +kernel
theorem dX7_overlapLength_11 : decode cX7_overlapLength 11 = .ok (.aload_n 0, 1) := by decide +kernel
theorem dX7_overlapLength_12 : decode cX7_overlapLength 12 = .ok (.getfield 30, 3) := by decide +kernel
theorem dX7_overlapLength_15 : decode cX7_overlapLength 15 = .ok (.iload_n 2, 1) := by decide +kernel
theorem dX7_overlapLength_16 : decode cX7_overlapLength 16 = .ok (.invokevirtual 154, 3) := by decide +kernel
theorem dX7_overlapLength_19 : decode cX7_overlapLength 19 = .ok (.ifCond .ne 6, 3) := by decide +kernel
theorem dX7_overlapLength_22 : decode cX7_overlapLength 22 = .ok (.bipush (-2), 2) := by decide +kernel
theorem dX7_overlapLength_24 : decode cX7_overlapLength 24 = .ok (.ireturn, 1) := by decide +kernel
theorem dX7_overlapLength_25 : decode cX7_overlapLength 25 = .ok (.aload_n 0, 1) := by decide +kernel
theorem dX7_overlapLength_26 : decode cX7_overlapLength 26 = .ok (.getfield 30, 3) := by decide +kernel
theorem dX7_overlapLength_29 : decode cX7_overlapLength 29 = .ok (.iload_n 1, 1) := by decide +kernel
theorem dX7_overlapLength_30 : decode cX7_overlapLength 30 = .ok (.invokevirtual 208, 3) := by decide +kernel
theorem dX7_overlapLength_33 : decode cX7_overlapLength 33 = .ok (.aload_n 0, 1) := by decide +kernel
theorem dX7_overlapLength_34 : decode cX7_overlapLength 34 = .ok (.getfield 30, 3) := by decide +kernel
theorem dX7_overlapLength_37 : decode cX7_overlapLength 37 = .ok (.iload_n 1, 1) := by decide +kernel
theorem dX7_overlapLength_38 : decode cX7_overlapLength 38 = .ok (.invokevirtual 157, 3) := by decide +kernel
theorem dX7_overlapLength_41 : decode cX7_overlapLength 41 = .ok (.iadd, 1) := by decide +kernel
theorem dX7_overlapLength_42 : decode cX7_overlapLength 42 = .ok (.istore_n 3, 1) := by decide +kernel
theorem dX7_overlapLength_43 : decode cX7_overlapLength 43 = .ok (.aload_n 0, 1) := by decide +kernel
theorem dX7_overlapLength_44 : decode cX7_overlapLength 44 = .ok (.getfield 30, 3) := by decide +kernel
theorem dX7_overlapLength_47 : decode cX7_overlapLength 47 = .ok (.iload_n 1, 1) := by decide +kernel
theorem dX7_overlapLength_48 : decode cX7_overlapLength 48 = .ok (.invokevirtual 157, 3) := by decide +kernel
theorem dX7_overlapLength_51 : decode cX7_overlapLength 51 = .ok (.aload_n 0, 1) := by decide +kernel
theorem dX7_overlapLength_52 : decode cX7_overlapLength 52 = .ok (.getfield 30, 3) := by decide +kernel
theorem dX7_overlapLength_55 : decode cX7_overlapLength 55 = .ok (.iload_n 2, 1) := by decide +kernel
theorem dX7_overlapLength_56 : decode cX7_overlapLength 56 = .ok (.invokevirtual 157, 3) := by decide +kernel
theorem dX7_overlapLength_59 : decode cX7_overlapLength 59 = .ok (.invokestatic 197, 3) := by decide +kernel
theorem dX7_overlapLength_62 : decode cX7_overlapLength 62 = .ok (.iconst 1, 1) := by decide +kernel
theorem dX7_overlapLength_63 : decode cX7_overlapLength 63 = .ok (.isub, 1) := by decide +kernel
theorem dX7_overlapLength_64 : decode cX7_overlapLength 64 = .ok (.istore 4, 2) := by decide +kernel
theorem dX7_overlapLength_66 : decode cX7_overlapLength 66 = .ok (.aload_n 0, 1) := by decide +kernel
theorem dX7_overlapLength_67 : decode cX7_overlapLength 67 = .ok (.getfield 12, 3) := by decide +kernel
theorem dX7_overlapLength_70 : decode cX7_overlapLength 70 = .ok (.aload_n 0, 1) := by decide +kernel
theorem dX7_overlapLength_71 : decode cX7_overlapLength 71 = .ok (.getfield 30, 3) := by decide +kernel
theorem dX7_overlapLength_74 : decode cX7_overlapLength 74 = .ok (.getfield 207, 3) := by decide +kernel
theorem dX7_overlapLength_77 : decode cX7_overlapLength 77 = .ok (.iload_n 3, 1) := by decide +kernel
theorem dX7_overlapLength_78 : decode cX7_overlapLength 78 = .ok (.aload_n 0, 1) := by decide +kernel
theorem dX7_overlapLength_79 : decode cX7_overlapLength 79 = .ok (.getfield 30, 3) := by decide +kernel
theorem dX7_overlapLength_82 : decode cX7_overlapLength 82 = .ok (.getfield 207, 3) := by decide +kernel
theorem dX7_overlapLength_85 : decode cX7_overlapLength 85 = .ok (.aload_n 0, 1) := by decide +kernel
theorem dX7_overlapLength_86 : decode cX7_overlapLength 86 = .ok (.getfield 30, 3) := by decide +kernel
theorem dX7_overlapLength_89 : decode cX7_overlapLength 89 = .ok (.iload_n 2, 1) := by decide +kernel
theorem dX7_overlapLength_90 : decode cX7_overlapLength 90 = .ok (.invokevirtual 208, 3) := by decide +kernel
theorem dX7_overlapLength_93 : decode cX7_overlapLength 93 = .ok (.iload 4, 2) := by decide +kernel
theorem dX7_overlapLength_95 : decode cX7_overlapLength 95 = .ok (.invokevirtual 271, 3) := by decide +kernel
theorem dX7_overlapLength_98 : decode cX7_overlapLength 98 = .ok (.ireturn, 1) := by decide +kernel
set_option maxRecDepth 20000 in
theorem ggX7_nearMatchCount_X3_isAlive : GoodIn wsX7_nearMatchCount wsX3_isAlive := goodIn_r _ [8, 9, 10, 11, 12, 7, 13, 14, 65, 66, 67, 68, 69, 70, 71] (by decide +kernel) (by decide +kernel)
set_option maxRecDepth 20000 in
theorem gX7_nearMatchCount_X3_isAlive : GoodIn wsX7_nearMatchCount (wsV RX7 138 RX3 yX3_isAlive wsX3_isAlive) := goodIn_app (goodIn_of _ (by decide +kernel)) ggX7_nearMatchCount_X3_isAlive
set_option maxRecDepth 20000 in
theorem ggX7_nearMatchCount_X3_lengthOf : GoodIn wsX7_nearMatchCount wsX3_lengthOf := goodIn_r _ [18, 19, 10, 11, 12, 7, 13, 14, 65, 66, 67, 68, 69, 70, 71] (by decide +kernel) (by decide +kernel)
set_option maxRecDepth 20000 in
theorem gX7_nearMatchCount_X3_lengthOf : GoodIn wsX7_nearMatchCount (wsV RX7 157 RX3 yX3_lengthOf wsX3_lengthOf) := goodIn_app (goodIn_of _ (by decide +kernel)) ggX7_nearMatchCount_X3_lengthOf
set_option maxRecDepth 20000 in
theorem ggX7_nearMatchCount_X3_mismatchesAt : GoodIn wsX7_nearMatchCount wsX3_mismatchesAt := goodIn_r _ [23, 24, 25, 16, 17, 7, 18, 19, 10, 11, 12, 13, 14, 26, 27, 28, 29, 30, 31, 32, 33, 34, 35, 36, 37, 38, 39, 40, 41, 42, 43, 44, 45, 46, 47, 65, 66, 67, 68, 69, 70, 71, 72, 63, 64] (by decide +kernel) (by decide +kernel)
set_option maxRecDepth 20000 in
theorem gX7_nearMatchCount_X3_mismatchesAt : GoodIn wsX7_nearMatchCount (wsV RX7 275 RX3 yX3_mismatchesAt wsX3_mismatchesAt) := goodIn_app (goodIn_of _ (by decide +kernel)) ggX7_nearMatchCount_X3_mismatchesAt
theorem dX7_nearMatchCount_0 : decode cX7_nearMatchCount 0 = .ok (.aload_n 0, 1) := by decide +kernel
theorem dX7_nearMatchCount_1 : decode cX7_nearMatchCount 1 = .ok (.getfield 30, 3) := by decide +kernel
theorem dX7_nearMatchCount_4 : decode cX7_nearMatchCount 4 = .ok (.iload_n 1, 1) := by decide +kernel
theorem dX7_nearMatchCount_5 : decode cX7_nearMatchCount 5 = .ok (.invokevirtual 138, 3) := by decide +kernel
theorem dX7_nearMatchCount_8 : decode cX7_nearMatchCount 8 = .ok (.ifCond .ne 6, 3) := by decide +kernel
theorem dX7_nearMatchCount_11 : decode cX7_nearMatchCount 11 = .ok (.bipush (-2), 2) := by decide +kernel
theorem dX7_nearMatchCount_13 : decode cX7_nearMatchCount 13 = .ok (.ireturn, 1) := by decide +kernel
theorem dX7_nearMatchCount_14 : decode cX7_nearMatchCount 14 = .ok (.iload_n 2, 1) := by decide +kernel
theorem dX7_nearMatchCount_15 : decode cX7_nearMatchCount 15 = .ok (.ifCond .lt 8, 3) := by decide +kernel
theorem dX7_nearMatchCount_18 : decode cX7_nearMatchCount 18 = .ok (.iload_n 2, 1) := by decide +kernel
theorem dX7_nearMatchCount_19 : decode cX7_nearMatchCount 19 = .ok (.iconst 3, 1) := by decide +kernel
theorem dX7_nearMatchCount_20 : decode cX7_nearMatchCount 20 = .ok (.if_icmp .le 6, 3) := by decide +kernel
theorem dX7_nearMatchCount_23 : decode cX7_nearMatchCount 23 = .ok (.bipush (-3), 2) := by decide +kernel
theorem dX7_nearMatchCount_25 : decode cX7_nearMatchCount 25 = .ok (.ireturn, 1) := by decide +kernel
theorem dX7_nearMatchCount_26 : decode cX7_nearMatchCount 26 = .ok (.iconst 0, 1) := by decide +kernel
theorem dX7_nearMatchCount_27 : decode cX7_nearMatchCount 27 = .ok (.istore_n 3, 1) := by decide +kernel
theorem dX7_nearMatchCount_28 : decode cX7_nearMatchCount 28 = .ok (.aload_n 0, 1) := by decide +kernel
theorem dX7_nearMatchCount_29 : decode cX7_nearMatchCount 29 = .ok (.getfield 51, 3) := by decide +kernel
theorem dX7_nearMatchCount_32 : decode cX7_nearMatchCount 32 = .ok (.getfield 89, 3) := by decide +kernel
theorem dX7_nearMatchCount_35 : decode cX7_nearMatchCount 35 = .ok (.aload_n 0, 1) := by decide +kernel
theorem dX7_nearMatchCount_36 : decode cX7_nearMatchCount 36 = .ok (.getfield 30, 3) := by decide +kernel
theorem dX7_nearMatchCount_39 : decode cX7_nearMatchCount 39 = .ok (.iload_n 1, 1) := by decide +kernel
theorem dX7_nearMatchCount_40 : decode cX7_nearMatchCount 40 = .ok (.invokevirtual 157, 3) := by decide +kernel
theorem dX7_nearMatchCount_43 : decode cX7_nearMatchCount 43 = .ok (.isub, 1) := by decide +kernel
theorem dX7_nearMatchCount_44 : decode cX7_nearMatchCount 44 = .ok (.istore 4, 2) := by decide +kernel
theorem dX7_nearMatchCount_46 : decode cX7_nearMatchCount 46 = .ok (.iconst 0, 1) := by decide +kernel
theorem dX7_nearMatchCount_47 : decode cX7_nearMatchCount 47 = .ok (.istore 5, 2) := by decide +kernel
theorem dX7_nearMatchCount_49 : decode cX7_nearMatchCount 49 = .ok (.iload 5, 2) := by decide +kernel
theorem dX7_nearMatchCount_51 : decode cX7_nearMatchCount 51 = .ok (.iload 4, 2) := by decide +kernel
theorem dX7_nearMatchCount_53 : decode cX7_nearMatchCount 53 = .ok (.if_icmp .gt 30, 3) := by decide +kernel
theorem dX7_nearMatchCount_56 : decode cX7_nearMatchCount 56 = .ok (.aload_n 0, 1) := by decide +kernel
theorem dX7_nearMatchCount_57 : decode cX7_nearMatchCount 57 = .ok (.getfield 30, 3) := by decide +kernel
theorem dX7_nearMatchCount_60 : decode cX7_nearMatchCount 60 = .ok (.iload_n 1, 1) := by decide +kernel
theorem dX7_nearMatchCount_61 : decode cX7_nearMatchCount 61 = .ok (.aload_n 0, 1) := by decide +kernel
theorem dX7_nearMatchCount_62 : decode cX7_nearMatchCount 62 = .ok (.getfield 51, 3) := by decide +kernel
theorem dX7_nearMatchCount_65 : decode cX7_nearMatchCount 65 = .ok (.iload 5, 2) := by decide +kernel
theorem dX7_nearMatchCount_67 : decode cX7_nearMatchCount 67 = .ok (.invokevirtual 275, 3) := by decide +kernel
theorem dX7_nearMatchCount_70 : decode cX7_nearMatchCount 70 = .ok (.iload_n 2, 1) := by decide +kernel
theorem dX7_nearMatchCount_71 : decode cX7_nearMatchCount 71 = .ok (.if_icmp .gt 6, 3) := by decide +kernel
theorem dX7_nearMatchCount_74 : decode cX7_nearMatchCount 74 = .ok (.iinc 3 1, 3) := by decide +kernel
theorem dX7_nearMatchCount_77 : decode cX7_nearMatchCount 77 = .ok (.iinc 5 1, 3) := by decide +kernel
theorem dX7_nearMatchCount_80 : decode cX7_nearMatchCount 80 = .ok (.goto (-31), 3) := by decide +kernel
theorem dX7_nearMatchCount_83 : decode cX7_nearMatchCount 83 = .ok (.iload_n 3, 1) := by decide +kernel
theorem dX7_nearMatchCount_84 : decode cX7_nearMatchCount 84 = .ok (.ireturn, 1) := by decide +kernel
set_option maxRecDepth 20000 in
theorem ggX7_fewestMismatches_X3_isAlive : GoodIn wsX7_fewestMismatches wsX3_isAlive := goodIn_r _ [7, 8, 9, 10, 11, 6, 12, 13, 68, 69, 70, 71, 72, 73, 74] (by decide +kernel) (by decide +kernel)
set_option maxRecDepth 20000 in
theorem gX7_fewestMismatches_X3_isAlive : GoodIn wsX7_fewestMismatches (wsV RX7 138 RX3 yX3_isAlive wsX3_isAlive) := goodIn_app (goodIn_of _ (by decide +kernel)) ggX7_fewestMismatches_X3_isAlive
set_option maxRecDepth 20000 in
theorem ggX7_fewestMismatches_X7_nearestPlace : GoodIn wsX7_fewestMismatches wsX7_nearestPlace := goodIn_r _ [18, 2, 19, 1, 20, 21, 22, 6, 23, 24, 9, 10, 11, 12, 13, 25, 26, 27, 28, 29, 30, 31, 32, 33, 34, 35, 36, 37, 38, 39, 40, 41, 42, 43, 44, 45, 46, 47, 48, 49, 50, 51, 52, 53, 54, 55, 56, 57, 58, 59, 60, 61, 62, 63, 64, 65, 66, 67, 75, 76, 68, 69, 70, 71, 72, 73, 74, 77] (by decide +kernel) (by decide +kernel)
set_option maxRecDepth 20000 in
theorem gX7_fewestMismatches_X7_nearestPlace : GoodIn wsX7_fewestMismatches (wsV RX7 279 RX7 yX7_nearestPlace wsX7_nearestPlace) := goodIn_app (goodIn_of _ (by decide +kernel)) ggX7_fewestMismatches_X7_nearestPlace
set_option maxRecDepth 20000 in
theorem ggX7_fewestMismatches_X3_mismatchesAt : GoodIn wsX7_fewestMismatches wsX3_mismatchesAt := goodIn_r _ [28, 29, 30, 21, 22, 6, 23, 24, 9, 10, 11, 12, 13, 31, 32, 33, 34, 35, 36, 37, 38, 39, 40, 41, 42, 43, 44, 45, 46, 47, 48, 49, 50, 51, 52, 68, 69, 70, 71, 72, 73, 74, 77, 75, 76] (by decide +kernel) (by decide +kernel)
set_option maxRecDepth 20000 in
theorem gX7_fewestMismatches_X3_mismatchesAt : GoodIn wsX7_fewestMismatches (wsV RX7 275 RX3 yX3_mismatchesAt wsX3_mismatchesAt) := goodIn_app (goodIn_of _ (by decide +kernel)) ggX7_fewestMismatches_X3_mismatchesAt
theorem dX7_fewestMismatches_0 : decode cX7_fewestMismatches 0 = .ok (.aload_n 0, 1) := by decide +kernel
theorem dX7_fewestMismatches_1 : decode cX7_fewestMismatches 1 = .ok (.getfield 30, 3) := by decide +kernel
theorem dX7_fewestMismatches_4 : decode cX7_fewestMismatches 4 = .ok (.iload_n 1, 1) := by decide +kernel
theorem dX7_fewestMismatches_5 : decode cX7_fewestMismatches 5 = .ok (.invokevirtual 138, 3) := by decide +kernel
theorem dX7_fewestMismatches_8 : decode cX7_fewestMismatches 8 = .ok (.ifCond .ne 6, 3) := by decide +kernel
theorem dX7_fewestMismatches_11 : decode cX7_fewestMismatches 11 = .ok (.bipush (-2), 2) := by decide +kernel
theorem dX7_fewestMismatches_13 : decode cX7_fewestMismatches 13 = .ok (.ireturn, 1) := by decide +kernel
theorem dX7_fewestMismatches_14 : decode cX7_fewestMismatches 14 = .ok (.aload_n 0, 1) := by decide +kernel
theorem dX7_fewestMismatches_15 : decode cX7_fewestMismatches 15 = .ok (.iload_n 1, 1) := by decide +kernel
theorem dX7_fewestMismatches_16 : decode cX7_fewestMismatches 16 = .ok (.invokevirtual 279, 3) := by decide +kernel
theorem dX7_fewestMismatches_19 : decode cX7_fewestMismatches 19 = .ok (.istore_n 2, 1) := by decide +kernel
theorem dX7_fewestMismatches_20 : decode cX7_fewestMismatches 20 = .ok (.iload_n 2, 1) := by decide +kernel
theorem dX7_fewestMismatches_21 : decode cX7_fewestMismatches 21 = .ok (.iconst (-1), 1) := by decide +kernel
theorem dX7_fewestMismatches_22 : decode cX7_fewestMismatches 22 = .ok (.if_icmp .ne 7, 3) := by decide +kernel
theorem dX7_fewestMismatches_25 : decode cX7_fewestMismatches 25 = .ok (.iconst (-1), 1) := by decide +kernel
theorem dX7_fewestMismatches_26 : decode cX7_fewestMismatches 26 = .ok (.goto 16, 3) := by decide +kernel
theorem dX7_fewestMismatches_29 : decode cX7_fewestMismatches 29 = .ok (.aload_n 0, 1) := by decide +kernel
theorem dX7_fewestMismatches_30 : decode cX7_fewestMismatches 30 = .ok (.getfield 30, 3) := by decide +kernel
theorem dX7_fewestMismatches_33 : decode cX7_fewestMismatches 33 = .ok (.iload_n 1, 1) := by decide +kernel
theorem dX7_fewestMismatches_34 : decode cX7_fewestMismatches 34 = .ok (.aload_n 0, 1) := by decide +kernel
theorem dX7_fewestMismatches_35 : decode cX7_fewestMismatches 35 = .ok (.getfield 51, 3) := by decide +kernel
theorem dX7_fewestMismatches_38 : decode cX7_fewestMismatches 38 = .ok (.iload_n 2, 1) := by decide +kernel
theorem dX7_fewestMismatches_39 : decode cX7_fewestMismatches 39 = .ok (.invokevirtual 275, 3) := by decide +kernel
theorem dX7_fewestMismatches_42 : decode cX7_fewestMismatches 42 = .ok (.ireturn, 1) := by decide +kernel
set_option maxRecDepth 20000 in
theorem ggX7_nearestStart_X3_isAlive : GoodIn wsX7_nearestStart wsX3_isAlive := goodIn_r _ [6, 7, 8, 9, 10, 5, 11, 12, 68, 69, 70, 71, 72, 73, 74] (by decide +kernel) (by decide +kernel)
set_option maxRecDepth 20000 in
theorem gX7_nearestStart_X3_isAlive : GoodIn wsX7_nearestStart (wsV RX7 138 RX3 yX3_isAlive wsX3_isAlive) := goodIn_app (goodIn_of _ (by decide +kernel)) ggX7_nearestStart_X3_isAlive
set_option maxRecDepth 20000 in
theorem ggX7_nearestStart_X7_nearestPlace : GoodIn wsX7_nearestStart wsX7_nearestPlace := goodIn_r _ [17, 18, 19, 1, 20, 21, 22, 5, 23, 24, 8, 9, 10, 11, 12, 25, 26, 27, 28, 29, 30, 31, 32, 33, 34, 35, 36, 37, 38, 39, 40, 41, 42, 43, 44, 45, 46, 47, 48, 49, 50, 51, 52, 53, 54, 55, 56, 57, 58, 59, 60, 61, 62, 63, 64, 65, 66, 67, 75, 76, 68, 69, 70, 71, 72, 73, 74, 77] (by decide +kernel) (by decide +kernel)
set_option maxRecDepth 20000 in
theorem gX7_nearestStart_X7_nearestPlace : GoodIn wsX7_nearestStart (wsV RX7 279 RX7 yX7_nearestPlace wsX7_nearestPlace) := goodIn_app (goodIn_of _ (by decide +kernel)) ggX7_nearestStart_X7_nearestPlace
theorem dX7_nearestStart_0 : decode cX7_nearestStart 0 = .ok (.aload_n 0, 1) := by decide +kernel
theorem dX7_nearestStart_1 : decode cX7_nearestStart 1 = .ok (.getfield 30, 3) := by decide +kernel
theorem dX7_nearestStart_4 : decode cX7_nearestStart 4 = .ok (.iload_n 1, 1) := by decide +kernel
theorem dX7_nearestStart_5 : decode cX7_nearestStart 5 = .ok (.invokevirtual 138, 3) := by decide +kernel
theorem dX7_nearestStart_8 : decode cX7_nearestStart 8 = .ok (.ifCond .eq 11, 3) := by decide +kernel
theorem dX7_nearestStart_11 : decode cX7_nearestStart 11 = .ok (.aload_n 0, 1) := by decide +kernel
theorem dX7_nearestStart_12 : decode cX7_nearestStart 12 = .ok (.iload_n 1, 1) := by decide +kernel
theorem dX7_nearestStart_13 : decode cX7_nearestStart 13 = .ok (.invokevirtual 279, 3) := by decide +kernel
theorem dX7_nearestStart_16 : decode cX7_nearestStart 16 = .ok (.goto 5, 3) := by decide +kernel
theorem dX7_nearestStart_19 : decode cX7_nearestStart 19 = .ok (.bipush (-2), 2) := by decide +kernel
theorem dX7_nearestStart_21 : decode cX7_nearestStart 21 = .ok (.ireturn, 1) := by decide +kernel
set_option maxRecDepth 20000 in
theorem ggX7_nearestPlace_X3_lengthOf : GoodIn wsX7_nearestPlace wsX3_lengthOf := goodIn_r _ [8, 9, 10, 11, 12, 7, 13, 14, 60, 61, 62, 63, 64, 65, 66] (by decide +kernel) (by decide +kernel)
set_option maxRecDepth 20000 in
theorem gX7_nearestPlace_X3_lengthOf : GoodIn wsX7_nearestPlace (wsV RX7 157 RX3 yX3_lengthOf wsX3_lengthOf) := goodIn_app (goodIn_of _ (by decide +kernel)) ggX7_nearestPlace_X3_lengthOf
set_option maxRecDepth 20000 in
theorem ggX7_nearestPlace_X3_mismatchesAt : GoodIn wsX7_nearestPlace wsX3_mismatchesAt := goodIn_r _ [18, 19, 20, 5, 6, 7, 8, 9, 10, 11, 12, 13, 14, 21, 22, 23, 24, 25, 26, 27, 28, 29, 30, 31, 32, 33, 34, 35, 36, 37, 38, 39, 40, 41, 42, 60, 61, 62, 63, 64, 65, 66, 67, 58, 59] (by decide +kernel) (by decide +kernel)
set_option maxRecDepth 20000 in
theorem gX7_nearestPlace_X3_mismatchesAt : GoodIn wsX7_nearestPlace (wsV RX7 275 RX3 yX3_mismatchesAt wsX3_mismatchesAt) := goodIn_app (goodIn_of _ (by decide +kernel)) ggX7_nearestPlace_X3_mismatchesAt
theorem dX7_nearestPlace_0 : decode cX7_nearestPlace 0 = .ok (.iconst (-1), 1) := by decide +kernel
theorem dX7_nearestPlace_1 : decode cX7_nearestPlace 1 = .ok (.istore_n 2, 1) := by decide +kernel
theorem dX7_nearestPlace_2 : decode cX7_nearestPlace 2 = .ok (.bipush 17, 2) := by decide +kernel
theorem dX7_nearestPlace_4 : decode cX7_nearestPlace 4 = .ok (.istore_n 3, 1) := by decide +kernel
theorem dX7_nearestPlace_5 : decode cX7_nearestPlace 5 = .ok (.aload_n 0, 1) := by decide +kernel
theorem dX7_nearestPlace_6 : decode cX7_nearestPlace 6 = .ok (.getfield 51, 3) := by decide +kernel
theorem dX7_nearestPlace_9 : decode cX7_nearestPlace 9 = .ok (.getfield 89, 3) := by decide +kernel
theorem dX7_nearestPlace_12 : decode cX7_nearestPlace 12 = .ok (.aload_n 0, 1) := by decide +kernel
theorem dX7_nearestPlace_13 : decode cX7_nearestPlace 13 = .ok (.getfield 30, 3) := by decide +kernel
theorem dX7_nearestPlace_16 : decode cX7_nearestPlace 16 = .ok (.iload_n 1, 1) := by decide +kernel
theorem dX7_nearestPlace_17 : decode cX7_nearestPlace 17 = .ok (.invokevirtual 157, 3) := by decide +kernel
theorem dX7_nearestPlace_20 : decode cX7_nearestPlace 20 = .ok (.isub, 1) := by decide +kernel
theorem dX7_nearestPlace_21 : decode cX7_nearestPlace 21 = .ok (.istore 4, 2) := by decide +kernel
theorem dX7_nearestPlace_23 : decode cX7_nearestPlace 23 = .ok (.iconst 0, 1) := by decide +kernel
theorem dX7_nearestPlace_24 : decode cX7_nearestPlace 24 = .ok (.istore 5, 2) := by decide +kernel
theorem dX7_nearestPlace_26 : decode cX7_nearestPlace 26 = .ok (.iload 5, 2) := by decide +kernel
theorem dX7_nearestPlace_28 : decode cX7_nearestPlace 28 = .ok (.iload 4, 2) := by decide +kernel
theorem dX7_nearestPlace_30 : decode cX7_nearestPlace 30 = .ok (.if_icmp .gt 37, 3) := by decide +kernel
theorem dX7_nearestPlace_33 : decode cX7_nearestPlace 33 = .ok (.aload_n 0, 1) := by decide +kernel
theorem dX7_nearestPlace_34 : decode cX7_nearestPlace 34 = .ok (.getfield 30, 3) := by decide +kernel
theorem dX7_nearestPlace_37 : decode cX7_nearestPlace 37 = .ok (.iload_n 1, 1) := by decide +kernel
theorem dX7_nearestPlace_38 : decode cX7_nearestPlace 38 = .ok (.aload_n 0, 1) := by decide +kernel
theorem dX7_nearestPlace_39 : decode cX7_nearestPlace 39 = .ok (.getfield 51, 3) := by decide +kernel
theorem dX7_nearestPlace_42 : decode cX7_nearestPlace 42 = .ok (.iload 5, 2) := by decide +kernel
theorem dX7_nearestPlace_44 : decode cX7_nearestPlace 44 = .ok (.invokevirtual 275, 3) := by decide +kernel
theorem dX7_nearestPlace_47 : decode cX7_nearestPlace 47 = .ok (.istore 6, 2) := by decide +kernel
theorem dX7_nearestPlace_49 : decode cX7_nearestPlace 49 = .ok (.iload 6, 2) := by decide +kernel
theorem dX7_nearestPlace_51 : decode cX7_nearestPlace 51 = .ok (.iload_n 3, 1) := by decide +kernel
theorem dX7_nearestPlace_52 : decode cX7_nearestPlace 52 = .ok (.if_icmp .ge 9, 3) := by decide +kernel
theorem dX7_nearestPlace_55 : decode cX7_nearestPlace 55 = .ok (.iload 6, 2) := by decide +kernel
theorem dX7_nearestPlace_57 : decode cX7_nearestPlace 57 = .ok (.istore_n 3, 1) := by decide +kernel
theorem dX7_nearestPlace_58 : decode cX7_nearestPlace 58 = .ok (.iload 5, 2) := by decide +kernel
theorem dX7_nearestPlace_60 : decode cX7_nearestPlace 60 = .ok (.istore_n 2, 1) := by decide +kernel
theorem dX7_nearestPlace_61 : decode cX7_nearestPlace 61 = .ok (.iinc 5 1, 3) := by decide +kernel
theorem dX7_nearestPlace_64 : decode cX7_nearestPlace 64 = .ok (.goto (-38), 3) := by decide +kernel
theorem dX7_nearestPlace_67 : decode cX7_nearestPlace 67 = .ok (.iload_n 2, 1) := by decide +kernel
theorem dX7_nearestPlace_68 : decode cX7_nearestPlace 68 = .ok (.ireturn, 1) := by decide +kernel
set_option maxRecDepth 20000 in
theorem ggX7_superstringLength_X6_build : GoodIn wsX7_superstringLength wsX6_build := goodIn_r _ [9, 10, 11, 12, 13, 14, 8, 15, 16, 17, 18, 19, 20, 21, 22, 23, 24, 25, 26, 27, 28, 29, 30, 31, 32, 33, 34, 35, 36, 37, 38, 39, 40, 41, 42, 43, 44, 45, 46, 47, 48, 49, 50, 51, 52, 53, 54, 55, 56, 57, 58, 59, 60, 61, 62, 63, 64, 65, 66, 67, 68, 69, 70, 71, 72, 73, 74, 75, 76, 77, 78, 79, 80, 81, 82, 83, 84, 85, 86, 87, 88, 89, 90, 91, 92, 93, 94, 95, 96, 97, 98, 99, 100, 101, 102, 103, 104, 105, 106, 107, 108, 109, 110, 111, 112, 113, 114, 130, 131, 132, 133, 134, 135, 136, 137, 140, 141, 142, 143, 144, 145, 146, 138, 139, 147] (by decide +kernel) (by decide +kernel)
set_option maxRecDepth 20000 in
theorem gX7_superstringLength_X6_build : GoodIn wsX7_superstringLength (wsV RX7 282 RX6 yX6_build wsX6_build) := goodIn_app (goodIn_of _ (by decide +kernel)) ggX7_superstringLength_X6_build
theorem dX7_superstringLength_0 : decode cX7_superstringLength 0 = .ok (.aload_n 0, 1) := by decide +kernel
theorem dX7_superstringLength_1 : decode cX7_superstringLength 1 = .ok (.getfield 47, 3) := by decide +kernel
theorem dX7_superstringLength_4 : decode cX7_superstringLength 4 = .ok (.aload_n 0, 1) := by decide +kernel
theorem dX7_superstringLength_5 : decode cX7_superstringLength 5 = .ok (.getfield 30, 3) := by decide +kernel
theorem dX7_superstringLength_8 : decode cX7_superstringLength 8 = .ok (.invokevirtual 282, 3) := by decide +kernel
theorem dX7_superstringLength_11 : decode cX7_superstringLength 11 = .ok (.aload_n 0, 1) := by decide +kernel
theorem dX7_superstringLength_12 : decode cX7_superstringLength 12 = .ok (.getfield 47, 3) := by decide +kernel
theorem dX7_superstringLength_15 : decode cX7_superstringLength 15 = .ok (.getfield 286, 3) := by decide +kernel
theorem dX7_superstringLength_18 : decode cX7_superstringLength 18 = .ok (.getfield 89, 3) := by decide +kernel
theorem dX7_superstringLength_21 : decode cX7_superstringLength 21 = .ok (.ireturn, 1) := by decide +kernel
set_option maxRecDepth 20000 in
theorem ggX7_superstringByte_X6_build : GoodIn wsX7_superstringByte wsX6_build := goodIn_r _ [8, 9, 10, 11, 12, 13, 7, 14, 15, 16, 17, 18, 19, 20, 21, 22, 23, 24, 25, 26, 27, 28, 29, 30, 31, 32, 33, 34, 35, 36, 37, 38, 39, 40, 41, 42, 43, 44, 45, 46, 47, 48, 49, 50, 51, 52, 53, 54, 55, 56, 57, 58, 59, 60, 61, 62, 63, 64, 65, 66, 67, 68, 69, 70, 71, 72, 73, 74, 75, 76, 77, 78, 79, 80, 81, 82, 83, 84, 85, 86, 87, 88, 89, 90, 91, 92, 93, 94, 95, 96, 97, 98, 99, 100, 101, 102, 103, 104, 105, 106, 107, 108, 109, 110, 111, 112, 113, 133, 134, 135, 136, 137, 138, 139, 140, 141, 142, 143, 144, 145, 146, 147, 148, 149, 150] (by decide +kernel) (by decide +kernel)
set_option maxRecDepth 20000 in
theorem gX7_superstringByte_X6_build : GoodIn wsX7_superstringByte (wsV RX7 282 RX6 yX6_build wsX6_build) := goodIn_app (goodIn_of _ (by decide +kernel)) ggX7_superstringByte_X6_build
set_option maxRecDepth 20000 in
theorem ggX7_superstringByte_X1_at : GoodIn wsX7_superstringByte wsX1_at := goodIn_r _ [117, 26, 80, 148, 149] (by decide +kernel) (by decide +kernel)
set_option maxRecDepth 20000 in
theorem gX7_superstringByte_X1_at : GoodIn wsX7_superstringByte (wsV RX7 135 RX1 yX1_at wsX1_at) := goodIn_app (goodIn_of _ (by decide +kernel)) ggX7_superstringByte_X1_at
theorem dX7_superstringByte_0 : decode cX7_superstringByte 0 = .ok (.iload_n 1, 1) := by decide +kernel
theorem dX7_superstringByte_1 : decode cX7_superstringByte 1 = .ok (.ifCond .ge 6, 3) := by decide +kernel
theorem dX7_superstringByte_4 : decode cX7_superstringByte 4 = .ok (.bipush (-3), 2) := by decide +kernel
theorem dX7_superstringByte_6 : decode cX7_superstringByte 6 = .ok (.ireturn, 1) := by decide +kernel
theorem dX7_superstringByte_7 : decode cX7_superstringByte 7 = .ok (.aload_n 0, 1) := by decide +kernel
theorem dX7_superstringByte_8 : decode cX7_superstringByte 8 = .ok (.getfield 47, 3) := by decide +kernel
theorem dX7_superstringByte_11 : decode cX7_superstringByte 11 = .ok (.aload_n 0, 1) := by decide +kernel
theorem dX7_superstringByte_12 : decode cX7_superstringByte 12 = .ok (.getfield 30, 3) := by decide +kernel
theorem dX7_superstringByte_15 : decode cX7_superstringByte 15 = .ok (.invokevirtual 282, 3) := by decide +kernel
theorem dX7_superstringByte_18 : decode cX7_superstringByte 18 = .ok (.aload_n 0, 1) := by decide +kernel
theorem dX7_superstringByte_19 : decode cX7_superstringByte 19 = .ok (.getfield 47, 3) := by decide +kernel
theorem dX7_superstringByte_22 : decode cX7_superstringByte 22 = .ok (.getfield 286, 3) := by decide +kernel
theorem dX7_superstringByte_25 : decode cX7_superstringByte 25 = .ok (.iload_n 1, 1) := by decide +kernel
theorem dX7_superstringByte_26 : decode cX7_superstringByte 26 = .ok (.invokevirtual 135, 3) := by decide +kernel
theorem dX7_superstringByte_29 : decode cX7_superstringByte 29 = .ok (.ireturn, 1) := by decide +kernel
set_option maxRecDepth 20000 in
theorem ggX7_superstringStart_X3_isAlive : GoodIn wsX7_superstringStart wsX3_isAlive := goodIn_r _ [9, 10, 11, 12, 13, 8, 14, 15, 147, 148, 149, 150, 151, 152, 153] (by decide +kernel) (by decide +kernel)
set_option maxRecDepth 20000 in
theorem gX7_superstringStart_X3_isAlive : GoodIn wsX7_superstringStart (wsV RX7 138 RX3 yX3_isAlive wsX3_isAlive) := goodIn_app (goodIn_of _ (by decide +kernel)) ggX7_superstringStart_X3_isAlive
set_option maxRecDepth 20000 in
theorem ggX7_superstringStart_X6_build : GoodIn wsX7_superstringStart wsX6_build := goodIn_r _ [20, 21, 22, 23, 24, 25, 19, 26, 27, 28, 29, 30, 31, 32, 33, 34, 35, 36, 37, 38, 39, 6, 7, 8, 9, 10, 11, 12, 13, 14, 15, 40, 41, 42, 43, 44, 45, 46, 47, 48, 49, 50, 51, 52, 53, 54, 55, 56, 57, 58, 59, 60, 61, 62, 63, 64, 65, 66, 67, 68, 69, 70, 71, 72, 73, 74, 75, 76, 77, 78, 79, 80, 81, 82, 83, 84, 85, 86, 87, 88, 89, 90, 91, 92, 93, 94, 95, 96, 97, 98, 99, 100, 101, 102, 103, 104, 105, 106, 107, 108, 109, 110, 111, 112, 113, 114, 115, 137, 138, 139, 140, 141, 142, 143, 144, 147, 148, 149, 150, 151, 152, 153, 145, 146, 154] (by decide +kernel) (by decide +kernel)
set_option maxRecDepth 20000 in
theorem gX7_superstringStart_X6_build : GoodIn wsX7_superstringStart (wsV RX7 282 RX6 yX6_build wsX6_build) := goodIn_app (goodIn_of _ (by decide +kernel)) ggX7_superstringStart_X6_build
set_option maxRecDepth 20000 in
theorem ggX7_superstringStart_X3_standsAt : GoodIn wsX7_superstringStart wsX3_standsAt := goodIn_r _ [119, 120, 45, 46, 121, 47, 48, 49, 8, 50, 44, 11, 12, 13, 14, 15, 51, 52, 53, 54, 55, 56, 57, 58, 59, 60, 61, 62, 63, 64, 65, 66, 67, 68, 69, 70, 71, 72, 73, 74, 75, 145, 146, 147, 148, 149, 150, 151, 152, 153, 154] (by decide +kernel) (by decide +kernel)
set_option maxRecDepth 20000 in
theorem gX7_superstringStart_X3_standsAt : GoodIn wsX7_superstringStart (wsV RX7 231 RX3 yX3_standsAt wsX3_standsAt) := goodIn_app (goodIn_of _ (by decide +kernel)) ggX7_superstringStart_X3_standsAt
theorem dX7_superstringStart_0 : decode cX7_superstringStart 0 = .ok (.aload_n 0, 1) := by decide +kernel
theorem dX7_superstringStart_1 : decode cX7_superstringStart 1 = .ok (.getfield 30, 3) := by decide +kernel
theorem dX7_superstringStart_4 : decode cX7_superstringStart 4 = .ok (.iload_n 1, 1) := by decide +kernel
theorem dX7_superstringStart_5 : decode cX7_superstringStart 5 = .ok (.invokevirtual 138, 3) := by decide +kernel
theorem dX7_superstringStart_8 : decode cX7_superstringStart 8 = .ok (.ifCond .ne 6, 3) := by decide +kernel
theorem dX7_superstringStart_11 : decode cX7_superstringStart 11 = .ok (.bipush (-2), 2) := by decide +kernel
theorem dX7_superstringStart_13 : decode cX7_superstringStart 13 = .ok (.ireturn, 1) := by decide +kernel
theorem dX7_superstringStart_14 : decode cX7_superstringStart 14 = .ok (.aload_n 0, 1) := by decide +kernel
theorem dX7_superstringStart_15 : decode cX7_superstringStart 15 = .ok (.getfield 47, 3) := by decide +kernel
theorem dX7_superstringStart_18 : decode cX7_superstringStart 18 = .ok (.aload_n 0, 1) := by decide +kernel
theorem dX7_superstringStart_19 : decode cX7_superstringStart 19 = .ok (.getfield 30, 3) := by decide +kernel
theorem dX7_superstringStart_22 : decode cX7_superstringStart 22 = .ok (.invokevirtual 282, 3) := by decide +kernel
theorem dX7_superstringStart_25 : decode cX7_superstringStart 25 = .ok (.iconst 0, 1) := by decide +kernel
theorem dX7_superstringStart_26 : decode cX7_superstringStart 26 = .ok (.istore_n 2, 1) := by decide +kernel
theorem dX7_superstringStart_27 : decode cX7_superstringStart 27 = .ok (.iload_n 2, 1) := by decide +kernel
theorem dX7_superstringStart_28 : decode cX7_superstringStart 28 = .ok (.aload_n 0, 1) := by decide +kernel
theorem dX7_superstringStart_29 : decode cX7_superstringStart 29 = .ok (.getfield 47, 3) := by decide +kernel
theorem dX7_superstringStart_32 : decode cX7_superstringStart 32 = .ok (.getfield 286, 3) := by decide +kernel
theorem dX7_superstringStart_35 : decode cX7_superstringStart 35 = .ok (.getfield 89, 3) := by decide +kernel
theorem dX7_superstringStart_38 : decode cX7_superstringStart 38 = .ok (.if_icmp .ge 30, 3) := by decide +kernel
theorem dX7_superstringStart_41 : decode cX7_superstringStart 41 = .ok (.aload_n 0, 1) := by decide +kernel
theorem dX7_superstringStart_42 : decode cX7_superstringStart 42 = .ok (.getfield 30, 3) := by decide +kernel
theorem dX7_superstringStart_45 : decode cX7_superstringStart 45 = .ok (.iload_n 1, 1) := by decide +kernel
theorem dX7_superstringStart_46 : decode cX7_superstringStart 46 = .ok (.aload_n 0, 1) := by decide +kernel
theorem dX7_superstringStart_47 : decode cX7_superstringStart 47 = .ok (.getfield 47, 3) := by decide +kernel
theorem dX7_superstringStart_50 : decode cX7_superstringStart 50 = .ok (.getfield 286, 3) := by decide +kernel
theorem dX7_superstringStart_53 : decode cX7_superstringStart 53 = .ok (.iload_n 2, 1) := by decide +kernel
theorem dX7_superstringStart_54 : decode cX7_superstringStart 54 = .ok (.invokevirtual 231, 3) := by decide +kernel
theorem dX7_superstringStart_57 : decode cX7_superstringStart 57 = .ok (.ifCond .eq 5, 3) := by decide +kernel
theorem dX7_superstringStart_60 : decode cX7_superstringStart 60 = .ok (.iload_n 2, 1) := by decide +kernel
theorem dX7_superstringStart_61 : decode cX7_superstringStart 61 = .ok (.ireturn, 1) := by decide +kernel
theorem dX7_superstringStart_62 : decode cX7_superstringStart 62 = .ok (.iinc 2 1, 3) := by decide +kernel
theorem dX7_superstringStart_65 : decode cX7_superstringStart 65 = .ok (.goto (-38), 3) := by decide +kernel
theorem dX7_superstringStart_68 : decode cX7_superstringStart 68 = .ok (.iconst (-1), 1) := by decide +kernel
theorem dX7_superstringStart_69 : decode cX7_superstringStart 69 = .ok (.ireturn, 1) := by decide +kernel
set_option maxRecDepth 20000 in
theorem ggX7_coveredBytes_X7_chooseCover : GoodIn wsX7_coveredBytes wsX7_chooseCover := goodIn_r _ [8, 1, 9, 10, 3, 11, 12, 13, 7, 14, 15, 16, 17, 18, 19, 20, 21, 22, 23, 24, 25, 26, 27, 28, 29, 30, 31, 32, 33, 34, 35, 36, 37, 38, 39, 40, 41, 42, 43, 44, 45, 46, 47, 48, 49, 50, 51, 52, 53, 54, 55, 56, 57, 58, 59, 60, 61, 62, 63, 64, 65, 66, 67, 68, 69, 70, 71, 72, 73, 74, 75, 76, 77, 82, 83, 84, 85, 86, 87, 88, 89, 90, 91, 92, 93, 94, 95, 96, 100, 101, 102, 103, 104, 105, 106, 107, 108, 109, 97, 98, 99] (by decide +kernel) (by decide +kernel)
set_option maxRecDepth 20000 in
theorem gX7_coveredBytes_X7_chooseCover : GoodIn wsX7_coveredBytes (wsV RX7 289 RX7 yX7_chooseCover wsX7_chooseCover) := goodIn_app (goodIn_of _ (by decide +kernel)) ggX7_coveredBytes_X7_chooseCover
set_option maxRecDepth 20000 in
theorem ggX7_coveredBytes_X4_keywordAt : GoodIn wsX7_coveredBytes wsX4_keywordAt := goodIn_r _ [81, 59, 72, 97, 98, 99] (by decide +kernel) (by decide +kernel)
set_option maxRecDepth 20000 in
theorem gX7_coveredBytes_X4_keywordAt : GoodIn wsX7_coveredBytes (wsV RX7 249 RX4 yX4_keywordAt wsX4_keywordAt) := goodIn_app (goodIn_of _ (by decide +kernel)) ggX7_coveredBytes_X4_keywordAt
set_option maxRecDepth 20000 in
theorem ggX7_coveredBytes_X3_lengthOf : GoodIn wsX7_coveredBytes wsX3_lengthOf := goodIn_r _ [76, 77, 49, 50, 51, 46, 52, 53, 103, 104, 105, 106, 107, 108, 109] (by decide +kernel) (by decide +kernel)
set_option maxRecDepth 20000 in
theorem gX7_coveredBytes_X3_lengthOf : GoodIn wsX7_coveredBytes (wsV RX7 157 RX3 yX3_lengthOf wsX3_lengthOf) := goodIn_app (goodIn_of _ (by decide +kernel)) ggX7_coveredBytes_X3_lengthOf
theorem dX7_coveredBytes_0 : decode cX7_coveredBytes 0 = .ok (.aload_n 0, 1) := by decide +kernel
theorem dX7_coveredBytes_1 : decode cX7_coveredBytes 1 = .ok (.invokevirtual 289, 3) := by decide +kernel
theorem dX7_coveredBytes_4 : decode cX7_coveredBytes 4 = .ok (.iconst 0, 1) := by decide +kernel
theorem dX7_coveredBytes_5 : decode cX7_coveredBytes 5 = .ok (.istore_n 1, 1) := by decide +kernel
theorem dX7_coveredBytes_6 : decode cX7_coveredBytes 6 = .ok (.iconst 0, 1) := by decide +kernel
theorem dX7_coveredBytes_7 : decode cX7_coveredBytes 7 = .ok (.istore_n 2, 1) := by decide +kernel
theorem dX7_coveredBytes_8 : decode cX7_coveredBytes 8 = .ok (.iload_n 2, 1) := by decide +kernel
theorem dX7_coveredBytes_9 : decode cX7_coveredBytes 9 = .ok (.aload_n 0, 1) := by decide +kernel
theorem dX7_coveredBytes_10 : decode cX7_coveredBytes 10 = .ok (.getfield 68, 3) := by decide +kernel
theorem dX7_coveredBytes_13 : decode cX7_coveredBytes 13 = .ok (.getfield 292, 3) := by decide +kernel
theorem dX7_coveredBytes_16 : decode cX7_coveredBytes 16 = .ok (.if_icmp .ge 27, 3) := by decide +kernel
theorem dX7_coveredBytes_19 : decode cX7_coveredBytes 19 = .ok (.iload_n 1, 1) := by decide +kernel
theorem dX7_coveredBytes_20 : decode cX7_coveredBytes 20 = .ok (.aload_n 0, 1) := by decide +kernel
theorem dX7_coveredBytes_21 : decode cX7_coveredBytes 21 = .ok (.getfield 30, 3) := by decide +kernel
theorem dX7_coveredBytes_24 : decode cX7_coveredBytes 24 = .ok (.aload_n 0, 1) := by decide +kernel
theorem dX7_coveredBytes_25 : decode cX7_coveredBytes 25 = .ok (.getfield 68, 3) := by decide +kernel
theorem dX7_coveredBytes_28 : decode cX7_coveredBytes 28 = .ok (.iload_n 2, 1) := by decide +kernel
theorem dX7_coveredBytes_29 : decode cX7_coveredBytes 29 = .ok (.invokevirtual 249, 3) := by decide +kernel
theorem dX7_coveredBytes_32 : decode cX7_coveredBytes 32 = .ok (.invokevirtual 157, 3) := by decide +kernel
theorem dX7_coveredBytes_35 : decode cX7_coveredBytes 35 = .ok (.iadd, 1) := by decide +kernel
theorem dX7_coveredBytes_36 : decode cX7_coveredBytes 36 = .ok (.istore_n 1, 1) := by decide +kernel
theorem dX7_coveredBytes_37 : decode cX7_coveredBytes 37 = .ok (.iinc 2 1, 3) := by decide +kernel
theorem dX7_coveredBytes_40 : decode cX7_coveredBytes 40 = .ok (.goto (-32), 3) := by decide +kernel
theorem dX7_coveredBytes_43 : decode cX7_coveredBytes 43 = .ok (.iload_n 1, 1) := by decide +kernel
theorem dX7_coveredBytes_44 : decode cX7_coveredBytes 44 = .ok (.ireturn, 1) := by decide +kernel
set_option maxRecDepth 20000 in
theorem ggX7_coverWeight_X7_chooseCover : GoodIn wsX7_coverWeight wsX7_chooseCover := goodIn_r _ [8, 1, 9, 10, 3, 11, 12, 13, 7, 14, 15, 16, 17, 18, 19, 20, 21, 22, 23, 24, 25, 26, 27, 28, 29, 30, 31, 32, 33, 34, 35, 36, 37, 38, 39, 40, 41, 42, 43, 44, 45, 46, 47, 48, 49, 50, 51, 52, 53, 54, 55, 56, 57, 58, 59, 60, 61, 62, 63, 64, 65, 66, 67, 68, 69, 70, 71, 72, 73, 74, 75, 76, 77, 82, 83, 84, 85, 86, 87, 88, 89, 90, 91, 92, 93, 94, 95, 96, 100, 101, 102, 103, 104, 105, 106, 107, 108, 109, 97, 98, 99] (by decide +kernel) (by decide +kernel)
set_option maxRecDepth 20000 in
theorem gX7_coverWeight_X7_chooseCover : GoodIn wsX7_coverWeight (wsV RX7 289 RX7 yX7_chooseCover wsX7_chooseCover) := goodIn_app (goodIn_of _ (by decide +kernel)) ggX7_coverWeight_X7_chooseCover
set_option maxRecDepth 20000 in
theorem ggX7_coverWeight_X4_keywordAt : GoodIn wsX7_coverWeight wsX4_keywordAt := goodIn_r _ [81, 59, 72, 97, 98, 99] (by decide +kernel) (by decide +kernel)
set_option maxRecDepth 20000 in
theorem gX7_coverWeight_X4_keywordAt : GoodIn wsX7_coverWeight (wsV RX7 249 RX4 yX4_keywordAt wsX4_keywordAt) := goodIn_app (goodIn_of _ (by decide +kernel)) ggX7_coverWeight_X4_keywordAt
set_option maxRecDepth 20000 in
theorem ggX7_coverWeight_X3_weightOf : GoodIn wsX7_coverWeight wsX3_weightOf := goodIn_r _ [47, 48, 49, 50, 51, 46, 52, 53, 103, 104, 105, 106, 107, 108, 109] (by decide +kernel) (by decide +kernel)
set_option maxRecDepth 20000 in
theorem gX7_coverWeight_X3_weightOf : GoodIn wsX7_coverWeight (wsV RX7 164 RX3 yX3_weightOf wsX3_weightOf) := goodIn_app (goodIn_of _ (by decide +kernel)) ggX7_coverWeight_X3_weightOf
theorem dX7_coverWeight_0 : decode cX7_coverWeight 0 = .ok (.aload_n 0, 1) := by decide +kernel
theorem dX7_coverWeight_1 : decode cX7_coverWeight 1 = .ok (.invokevirtual 289, 3) := by decide +kernel
theorem dX7_coverWeight_4 : decode cX7_coverWeight 4 = .ok (.iconst 0, 1) := by decide +kernel
theorem dX7_coverWeight_5 : decode cX7_coverWeight 5 = .ok (.istore_n 1, 1) := by decide +kernel
theorem dX7_coverWeight_6 : decode cX7_coverWeight 6 = .ok (.iconst 0, 1) := by decide +kernel
theorem dX7_coverWeight_7 : decode cX7_coverWeight 7 = .ok (.istore_n 2, 1) := by decide +kernel
theorem dX7_coverWeight_8 : decode cX7_coverWeight 8 = .ok (.iload_n 2, 1) := by decide +kernel
theorem dX7_coverWeight_9 : decode cX7_coverWeight 9 = .ok (.aload_n 0, 1) := by decide +kernel
theorem dX7_coverWeight_10 : decode cX7_coverWeight 10 = .ok (.getfield 68, 3) := by decide +kernel
theorem dX7_coverWeight_13 : decode cX7_coverWeight 13 = .ok (.getfield 292, 3) := by decide +kernel
theorem dX7_coverWeight_16 : decode cX7_coverWeight 16 = .ok (.if_icmp .ge 27, 3) := by decide +kernel
theorem dX7_coverWeight_19 : decode cX7_coverWeight 19 = .ok (.iload_n 1, 1) := by decide +kernel
theorem dX7_coverWeight_20 : decode cX7_coverWeight 20 = .ok (.aload_n 0, 1) := by decide +kernel
theorem dX7_coverWeight_21 : decode cX7_coverWeight 21 = .ok (.getfield 30, 3) := by decide +kernel
theorem dX7_coverWeight_24 : decode cX7_coverWeight 24 = .ok (.aload_n 0, 1) := by decide +kernel
theorem dX7_coverWeight_25 : decode cX7_coverWeight 25 = .ok (.getfield 68, 3) := by decide +kernel
theorem dX7_coverWeight_28 : decode cX7_coverWeight 28 = .ok (.iload_n 2, 1) := by decide +kernel
theorem dX7_coverWeight_29 : decode cX7_coverWeight 29 = .ok (.invokevirtual 249, 3) := by decide +kernel
theorem dX7_coverWeight_32 : decode cX7_coverWeight 32 = .ok (.invokevirtual 164, 3) := by decide +kernel
theorem dX7_coverWeight_35 : decode cX7_coverWeight 35 = .ok (.iadd, 1) := by decide +kernel
theorem dX7_coverWeight_36 : decode cX7_coverWeight 36 = .ok (.istore_n 1, 1) := by decide +kernel
theorem dX7_coverWeight_37 : decode cX7_coverWeight 37 = .ok (.iinc 2 1, 3) := by decide +kernel
theorem dX7_coverWeight_40 : decode cX7_coverWeight 40 = .ok (.goto (-32), 3) := by decide +kernel
theorem dX7_coverWeight_43 : decode cX7_coverWeight 43 = .ok (.iload_n 1, 1) := by decide +kernel
theorem dX7_coverWeight_44 : decode cX7_coverWeight 44 = .ok (.ireturn, 1) := by decide +kernel
set_option maxRecDepth 20000 in
theorem ggX7_coverSize_X7_chooseCover : GoodIn wsX7_coverSize wsX7_chooseCover := goodIn_r _ [7, 1, 8, 9, 10, 11, 12, 13, 6, 14, 15, 16, 17, 18, 19, 20, 21, 22, 23, 24, 25, 26, 27, 28, 29, 30, 31, 32, 33, 34, 35, 36, 37, 38, 39, 40, 41, 42, 43, 44, 45, 46, 47, 48, 49, 50, 51, 52, 53, 54, 55, 56, 57, 58, 59, 60, 61, 62, 63, 64, 65, 66, 67, 68, 69, 70, 71, 72, 73, 74, 75, 76, 77, 78, 79, 80, 81, 82, 83, 84, 85, 86, 87, 88, 89, 90, 91, 92, 96, 97, 98, 99, 100, 101, 102, 103, 104, 105, 93, 94, 95] (by decide +kernel) (by decide +kernel)
set_option maxRecDepth 20000 in
theorem gX7_coverSize_X7_chooseCover : GoodIn wsX7_coverSize (wsV RX7 289 RX7 yX7_chooseCover wsX7_chooseCover) := goodIn_app (goodIn_of _ (by decide +kernel)) ggX7_coverSize_X7_chooseCover
theorem dX7_coverSize_0 : decode cX7_coverSize 0 = .ok (.aload_n 0, 1) := by decide +kernel
theorem dX7_coverSize_1 : decode cX7_coverSize 1 = .ok (.invokevirtual 289, 3) := by decide +kernel
theorem dX7_coverSize_4 : decode cX7_coverSize 4 = .ok (.aload_n 0, 1) := by decide +kernel
theorem dX7_coverSize_5 : decode cX7_coverSize 5 = .ok (.getfield 68, 3) := by decide +kernel
theorem dX7_coverSize_8 : decode cX7_coverSize 8 = .ok (.getfield 292, 3) := by decide +kernel
theorem dX7_coverSize_11 : decode cX7_coverSize 11 = .ok (.ireturn, 1) := by decide +kernel
set_option maxRecDepth 20000 in
theorem ggX7_coverStart_X7_chooseCover : GoodIn wsX7_coverStart wsX7_chooseCover := goodIn_r _ [6, 1, 7, 8, 9, 10, 11, 12, 5, 13, 14, 15, 16, 17, 18, 19, 20, 21, 22, 23, 24, 25, 26, 27, 28, 29, 30, 31, 32, 33, 34, 35, 36, 37, 38, 39, 40, 41, 42, 43, 44, 45, 46, 47, 48, 49, 50, 51, 52, 53, 54, 55, 56, 57, 58, 59, 60, 61, 62, 63, 64, 65, 66, 67, 68, 69, 70, 71, 72, 73, 74, 75, 76, 81, 82, 83, 84, 85, 86, 87, 88, 89, 90, 91, 92, 93, 94, 95, 96, 97, 98, 99, 100, 101, 102, 103, 104, 105, 106, 107, 108] (by decide +kernel) (by decide +kernel)
set_option maxRecDepth 20000 in
theorem gX7_coverStart_X7_chooseCover : GoodIn wsX7_coverStart (wsV RX7 289 RX7 yX7_chooseCover wsX7_chooseCover) := goodIn_app (goodIn_of _ (by decide +kernel)) ggX7_coverStart_X7_chooseCover
set_option maxRecDepth 20000 in
theorem ggX7_coverStart_X4_positionAt : GoodIn wsX7_coverStart wsX4_positionAt := goodIn_r _ [80, 58, 70, 106, 107, 108] (by decide +kernel) (by decide +kernel)
set_option maxRecDepth 20000 in
theorem gX7_coverStart_X4_positionAt : GoodIn wsX7_coverStart (wsV RX7 246 RX4 yX4_positionAt wsX4_positionAt) := goodIn_app (goodIn_of _ (by decide +kernel)) ggX7_coverStart_X4_positionAt
theorem dX7_coverStart_0 : decode cX7_coverStart 0 = .ok (.iload_n 1, 1) := by decide +kernel
theorem dX7_coverStart_1 : decode cX7_coverStart 1 = .ok (.ifCond .ge 6, 3) := by decide +kernel
theorem dX7_coverStart_4 : decode cX7_coverStart 4 = .ok (.bipush (-3), 2) := by decide +kernel
theorem dX7_coverStart_6 : decode cX7_coverStart 6 = .ok (.ireturn, 1) := by decide +kernel
theorem dX7_coverStart_7 : decode cX7_coverStart 7 = .ok (.aload_n 0, 1) := by decide +kernel
theorem dX7_coverStart_8 : decode cX7_coverStart 8 = .ok (.invokevirtual 289, 3) := by decide +kernel
theorem dX7_coverStart_11 : decode cX7_coverStart 11 = .ok (.aload_n 0, 1) := by decide +kernel
theorem dX7_coverStart_12 : decode cX7_coverStart 12 = .ok (.getfield 68, 3) := by decide +kernel
theorem dX7_coverStart_15 : decode cX7_coverStart 15 = .ok (.iload_n 1, 1) := by decide +kernel
theorem dX7_coverStart_16 : decode cX7_coverStart 16 = .ok (.invokevirtual 246, 3) := by decide +kernel
theorem dX7_coverStart_19 : decode cX7_coverStart 19 = .ok (.ireturn, 1) := by decide +kernel
set_option maxRecDepth 20000 in
theorem ggX7_coverKeyword_X7_chooseCover : GoodIn wsX7_coverKeyword wsX7_chooseCover := goodIn_r _ [6, 1, 7, 8, 9, 10, 11, 12, 5, 13, 14, 15, 16, 17, 18, 19, 20, 21, 22, 23, 24, 25, 26, 27, 28, 29, 30, 31, 32, 33, 34, 35, 36, 37, 38, 39, 40, 41, 42, 43, 44, 45, 46, 47, 48, 49, 50, 51, 52, 53, 54, 55, 56, 57, 58, 59, 60, 61, 62, 63, 64, 65, 66, 67, 68, 69, 70, 71, 72, 73, 74, 75, 76, 81, 82, 83, 84, 85, 86, 87, 88, 89, 90, 91, 92, 93, 94, 95, 96, 97, 98, 99, 100, 101, 102, 103, 104, 105, 106, 107, 108] (by decide +kernel) (by decide +kernel)
set_option maxRecDepth 20000 in
theorem gX7_coverKeyword_X7_chooseCover : GoodIn wsX7_coverKeyword (wsV RX7 289 RX7 yX7_chooseCover wsX7_chooseCover) := goodIn_app (goodIn_of _ (by decide +kernel)) ggX7_coverKeyword_X7_chooseCover
set_option maxRecDepth 20000 in
theorem ggX7_coverKeyword_X4_keywordAt : GoodIn wsX7_coverKeyword wsX4_keywordAt := goodIn_r _ [80, 58, 71, 106, 107, 108] (by decide +kernel) (by decide +kernel)
set_option maxRecDepth 20000 in
theorem gX7_coverKeyword_X4_keywordAt : GoodIn wsX7_coverKeyword (wsV RX7 249 RX4 yX4_keywordAt wsX4_keywordAt) := goodIn_app (goodIn_of _ (by decide +kernel)) ggX7_coverKeyword_X4_keywordAt
theorem dX7_coverKeyword_0 : decode cX7_coverKeyword 0 = .ok (.iload_n 1, 1) := by decide +kernel
theorem dX7_coverKeyword_1 : decode cX7_coverKeyword 1 = .ok (.ifCond .ge 6, 3) := by decide +kernel
theorem dX7_coverKeyword_4 : decode cX7_coverKeyword 4 = .ok (.bipush (-3), 2) := by decide +kernel
theorem dX7_coverKeyword_6 : decode cX7_coverKeyword 6 = .ok (.ireturn, 1) := by decide +kernel
theorem dX7_coverKeyword_7 : decode cX7_coverKeyword 7 = .ok (.aload_n 0, 1) := by decide +kernel
theorem dX7_coverKeyword_8 : decode cX7_coverKeyword 8 = .ok (.invokevirtual 289, 3) := by decide +kernel
theorem dX7_coverKeyword_11 : decode cX7_coverKeyword 11 = .ok (.aload_n 0, 1) := by decide +kernel
theorem dX7_coverKeyword_12 : decode cX7_coverKeyword 12 = .ok (.getfield 68, 3) := by decide +kernel
theorem dX7_coverKeyword_15 : decode cX7_coverKeyword 15 = .ok (.iload_n 1, 1) := by decide +kernel
theorem dX7_coverKeyword_16 : decode cX7_coverKeyword 16 = .ok (.invokevirtual 249, 3) := by decide +kernel
theorem dX7_coverKeyword_19 : decode cX7_coverKeyword 19 = .ok (.ireturn, 1) := by decide +kernel
set_option maxRecDepth 20000 in
theorem ggX7_chooseCover_X7_measureCovers : GoodIn wsX7_chooseCover wsX7_measureCovers := goodIn_r _ [9, 10, 2, 3, 11, 12, 13, 14, 15, 16, 17, 18, 19, 20, 21, 22, 23, 24, 25, 26, 27, 28, 29, 30, 31, 32, 8, 33, 34, 35, 4, 36, 37, 38, 39, 40, 41, 42, 43, 44, 45, 46, 47, 48, 73, 74, 75, 76, 77, 78, 79, 80, 81, 82, 83, 84, 85, 86, 87, 88, 89, 90, 91, 92, 93, 94, 95, 96, 97] (by decide +kernel) (by decide +kernel)
set_option maxRecDepth 20000 in
theorem gX7_chooseCover_X7_measureCovers : GoodIn wsX7_chooseCover (wsV RX7 295 RX7 yX7_measureCovers wsX7_measureCovers) := goodIn_app (goodIn_of _ (by decide +kernel)) ggX7_chooseCover_X7_measureCovers
set_option maxRecDepth 20000 in
theorem ggX7_chooseCover_X4_clear : GoodIn wsX7_chooseCover wsX4_clear := goodIn_r _ [53, 54, 98, 99, 100] (by decide +kernel) (by decide +kernel)
set_option maxRecDepth 20000 in
theorem gX7_chooseCover_X4_clear : GoodIn wsX7_chooseCover (wsV RX7 245 RX4 yX4_clear wsX4_clear) := goodIn_app (goodIn_of _ (by decide +kernel)) ggX7_chooseCover_X4_clear
set_option maxRecDepth 20000 in
theorem ggX7_chooseCover_X7_lowestBestFrom : GoodIn wsX7_chooseCover wsX7_lowestBestFrom := goodIn_r _ [58, 11, 10, 59, 60, 14, 61, 16, 17, 18, 19, 20, 21, 22, 23, 24, 25, 26, 27, 28, 29, 30, 31, 32, 8, 33, 2, 3, 34, 35, 4, 36, 37, 38, 39, 40, 41, 42, 43, 44, 45, 46, 47, 48, 73, 74, 75, 76, 77, 78, 79, 80, 81, 82, 83, 84, 85, 86, 87, 90, 88, 89, 91, 92, 93, 94, 95, 96, 97] (by decide +kernel) (by decide +kernel)
set_option maxRecDepth 20000 in
theorem gX7_chooseCover_X7_lowestBestFrom : GoodIn wsX7_chooseCover (wsV RX7 298 RX7 yX7_lowestBestFrom wsX7_lowestBestFrom) := goodIn_app (goodIn_of _ (by decide +kernel)) ggX7_chooseCover_X7_lowestBestFrom
set_option maxRecDepth 20000 in
theorem ggX7_chooseCover_X4_add : GoodIn wsX7_chooseCover wsX4_add := goodIn_r _ [65, 54, 66, 67, 98, 99, 100] (by decide +kernel) (by decide +kernel)
set_option maxRecDepth 20000 in
theorem gX7_chooseCover_X4_add : GoodIn wsX7_chooseCover (wsV RX7 241 RX4 yX4_add wsX4_add) := goodIn_app (goodIn_of _ (by decide +kernel)) ggX7_chooseCover_X4_add
set_option maxRecDepth 20000 in
theorem ggX7_chooseCover_X3_lengthOf : GoodIn wsX7_chooseCover wsX3_lengthOf := goodIn_r _ [71, 72, 44, 45, 46, 41, 47, 48, 91, 92, 93, 94, 95, 96, 97] (by decide +kernel) (by decide +kernel)
set_option maxRecDepth 20000 in
theorem gX7_chooseCover_X3_lengthOf : GoodIn wsX7_chooseCover (wsV RX7 157 RX3 yX3_lengthOf wsX3_lengthOf) := goodIn_app (goodIn_of _ (by decide +kernel)) ggX7_chooseCover_X3_lengthOf
theorem dX7_chooseCover_0 : decode cX7_chooseCover 0 = .ok (.aload_n 0, 1) := by decide +kernel
theorem dX7_chooseCover_1 : decode cX7_chooseCover 1 = .ok (.invokevirtual 295, 3) := by decide +kernel
theorem dX7_chooseCover_4 : decode cX7_chooseCover 4 = .ok (.aload_n 0, 1) := by decide +kernel
theorem dX7_chooseCover_5 : decode cX7_chooseCover 5 = .ok (.getfield 68, 3) := by decide +kernel
theorem dX7_chooseCover_8 : decode cX7_chooseCover 8 = .ok (.invokevirtual 245, 3) := by decide +kernel
theorem dX7_chooseCover_11 : decode cX7_chooseCover 11 = .ok (.iconst 0, 1) := by decide +kernel
theorem dX7_chooseCover_12 : decode cX7_chooseCover 12 = .ok (.istore_n 1, 1) := by decide +kernel
theorem dX7_chooseCover_13 : decode cX7_chooseCover 13 = .ok (.iconst 0, 1) := by decide +kernel
theorem dX7_chooseCover_14 : decode cX7_chooseCover 14 = .ok (.istore_n 2, 1) := by decide +kernel
theorem dX7_chooseCover_15 : decode cX7_chooseCover 15 = .ok (.iload_n 2, 1) := by decide +kernel
theorem dX7_chooseCover_16 : decode cX7_chooseCover 16 = .ok (.aload_n 0, 1) := by decide +kernel
theorem dX7_chooseCover_17 : decode cX7_chooseCover 17 = .ok (.getfield 51, 3) := by decide +kernel
theorem dX7_chooseCover_20 : decode cX7_chooseCover 20 = .ok (.getfield 89, 3) := by decide +kernel
theorem dX7_chooseCover_23 : decode cX7_chooseCover 23 = .ok (.if_icmp .ge 49, 3) := by decide +kernel
theorem dX7_chooseCover_26 : decode cX7_chooseCover 26 = .ok (.iload_n 2, 1) := by decide +kernel
theorem dX7_chooseCover_27 : decode cX7_chooseCover 27 = .ok (.iload_n 1, 1) := by decide +kernel
theorem dX7_chooseCover_28 : decode cX7_chooseCover 28 = .ok (.if_icmp .ge 7, 3) := by decide +kernel
theorem dX7_chooseCover_31 : decode cX7_chooseCover 31 = .ok (.iconst (-1), 1) := by decide +kernel
theorem dX7_chooseCover_32 : decode cX7_chooseCover 32 = .ok (.goto 8, 3) := by decide +kernel
theorem dX7_chooseCover_35 : decode cX7_chooseCover 35 = .ok (.aload_n 0, 1) := by decide +kernel
theorem dX7_chooseCover_36 : decode cX7_chooseCover 36 = .ok (.iload_n 2, 1) := by decide +kernel
theorem dX7_chooseCover_37 : decode cX7_chooseCover 37 = .ok (.invokevirtual 298, 3) := by decide +kernel
theorem dX7_chooseCover_40 : decode cX7_chooseCover 40 = .ok (.istore_n 3, 1) := by decide +kernel
theorem dX7_chooseCover_41 : decode cX7_chooseCover 41 = .ok (.iload_n 3, 1) := by decide +kernel
theorem dX7_chooseCover_42 : decode cX7_chooseCover 42 = .ok (.iconst (-1), 1) := by decide +kernel
theorem dX7_chooseCover_43 : decode cX7_chooseCover 43 = .ok (.if_icmp .eq 23, 3) := by decide +kernel
theorem dX7_chooseCover_46 : decode cX7_chooseCover 46 = .ok (.aload_n 0, 1) := by decide +kernel
theorem dX7_chooseCover_47 : decode cX7_chooseCover 47 = .ok (.getfield 68, 3) := by decide +kernel
theorem dX7_chooseCover_50 : decode cX7_chooseCover 50 = .ok (.iload_n 2, 1) := by decide +kernel
theorem dX7_chooseCover_51 : decode cX7_chooseCover 51 = .ok (.iload_n 3, 1) := by decide +kernel
theorem dX7_chooseCover_52 : decode cX7_chooseCover 52 = .ok (.invokevirtual 241, 3) := by decide +kernel
theorem dX7_chooseCover_55 : decode cX7_chooseCover 55 = .ok (.iload_n 2, 1) := by decide +kernel
theorem dX7_chooseCover_56 : decode cX7_chooseCover 56 = .ok (.aload_n 0, 1) := by decide +kernel
theorem dX7_chooseCover_57 : decode cX7_chooseCover 57 = .ok (.getfield 30, 3) := by decide +kernel
theorem dX7_chooseCover_60 : decode cX7_chooseCover 60 = .ok (.iload_n 3, 1) := by decide +kernel
theorem dX7_chooseCover_61 : decode cX7_chooseCover 61 = .ok (.invokevirtual 157, 3) := by decide +kernel
theorem dX7_chooseCover_64 : decode cX7_chooseCover 64 = .ok (.iadd, 1) := by decide +kernel
theorem dX7_chooseCover_65 : decode cX7_chooseCover 65 = .ok (.istore_n 1, 1) := by decide +kernel
theorem dX7_chooseCover_66 : decode cX7_chooseCover 66 = .ok (.iinc 2 1, 3) := by decide +kernel
theorem dX7_chooseCover_69 : decode cX7_chooseCover 69 = .ok (.goto (-54), 3) := by decide +kernel
theorem dX7_chooseCover_72 : decode cX7_chooseCover 72 = .ok (.return_, 1) := by decide +kernel
set_option maxRecDepth 20000 in
theorem ggX7_measureCovers_X5_longestFrom : GoodIn wsX7_measureCovers wsX5_longestFrom := goodIn_r _ [13, 14, 15, 16, 12, 17, 18, 19, 20, 21, 22, 61] (by decide +kernel) (by decide +kernel)
set_option maxRecDepth 20000 in
theorem gX7_measureCovers_X5_longestFrom : GoodIn wsX7_measureCovers (wsV RX7 264 RX5 yX5_longestFrom wsX5_longestFrom) := goodIn_app (goodIn_of _ (by decide +kernel)) ggX7_measureCovers_X5_longestFrom
set_option maxRecDepth 20000 in
theorem ggX7_measureCovers_X7_worthFrom : GoodIn wsX7_measureCovers wsX7_worthFrom := goodIn_r _ [27, 4, 2, 3, 28, 29, 30, 31, 1, 32, 15, 16, 12, 17, 18, 19, 20, 21, 22, 33, 34, 35, 36, 37, 38, 39, 40, 41, 42, 43, 44, 45, 46, 47, 48, 49, 50, 51, 52, 53, 54, 55, 56, 57, 58, 59, 60, 61, 62, 63, 64, 65, 66, 67, 68] (by decide +kernel) (by decide +kernel)
set_option maxRecDepth 20000 in
theorem gX7_measureCovers_X7_worthFrom : GoodIn wsX7_measureCovers (wsV RX7 301 RX7 yX7_worthFrom wsX7_worthFrom) := goodIn_app (goodIn_of _ (by decide +kernel)) ggX7_measureCovers_X7_worthFrom
theorem dX7_measureCovers_0 : decode cX7_measureCovers 0 = .ok (.aload_n 0, 1) := by decide +kernel
theorem dX7_measureCovers_1 : decode cX7_measureCovers 1 = .ok (.getfield 75, 3) := by decide +kernel
theorem dX7_measureCovers_4 : decode cX7_measureCovers 4 = .ok (.aload_n 0, 1) := by decide +kernel
theorem dX7_measureCovers_5 : decode cX7_measureCovers 5 = .ok (.getfield 51, 3) := by decide +kernel
theorem dX7_measureCovers_8 : decode cX7_measureCovers 8 = .ok (.getfield 89, 3) := by decide +kernel
theorem dX7_measureCovers_11 : decode cX7_measureCovers 11 = .ok (.lconst 0, 1) := by decide +kernel
theorem dX7_measureCovers_12 : decode cX7_measureCovers 12 = .ok (.lastore, 1) := by decide +kernel
theorem dX7_measureCovers_13 : decode cX7_measureCovers 13 = .ok (.aload_n 0, 1) := by decide +kernel
theorem dX7_measureCovers_14 : decode cX7_measureCovers 14 = .ok (.getfield 51, 3) := by decide +kernel
theorem dX7_measureCovers_17 : decode cX7_measureCovers 17 = .ok (.getfield 89, 3) := by decide +kernel
theorem dX7_measureCovers_20 : decode cX7_measureCovers 20 = .ok (.iconst 1, 1) := by decide +kernel
theorem dX7_measureCovers_21 : decode cX7_measureCovers 21 = .ok (.isub, 1) := by decide +kernel
theorem dX7_measureCovers_22 : decode cX7_measureCovers 22 = .ok (.istore_n 1, 1) := by decide +kernel
theorem dX7_measureCovers_23 : decode cX7_measureCovers 23 = .ok (.iload_n 1, 1) := by decide +kernel
theorem dX7_measureCovers_24 : decode cX7_measureCovers 24 = .ok (.ifCond .lt 66, 3) := by decide +kernel
theorem dX7_measureCovers_27 : decode cX7_measureCovers 27 = .ok (.aload_n 0, 1) := by decide +kernel
theorem dX7_measureCovers_28 : decode cX7_measureCovers 28 = .ok (.getfield 75, 3) := by decide +kernel
theorem dX7_measureCovers_31 : decode cX7_measureCovers 31 = .ok (.iload_n 1, 1) := by decide +kernel
theorem dX7_measureCovers_32 : decode cX7_measureCovers 32 = .ok (.aload_n 0, 1) := by decide +kernel
theorem dX7_measureCovers_33 : decode cX7_measureCovers 33 = .ok (.getfield 75, 3) := by decide +kernel
theorem dX7_measureCovers_36 : decode cX7_measureCovers 36 = .ok (.iload_n 1, 1) := by decide +kernel
theorem dX7_measureCovers_37 : decode cX7_measureCovers 37 = .ok (.iconst 1, 1) := by decide +kernel
theorem dX7_measureCovers_38 : decode cX7_measureCovers 38 = .ok (.iadd, 1) := by decide +kernel
theorem dX7_measureCovers_39 : decode cX7_measureCovers 39 = .ok (.laload, 1) := by decide +kernel
theorem dX7_measureCovers_40 : decode cX7_measureCovers 40 = .ok (.lastore, 1) := by decide +kernel
theorem dX7_measureCovers_41 : decode cX7_measureCovers 41 = .ok (.aload_n 0, 1) := by decide +kernel
theorem dX7_measureCovers_42 : decode cX7_measureCovers 42 = .ok (.getfield 57, 3) := by decide +kernel
theorem dX7_measureCovers_45 : decode cX7_measureCovers 45 = .ok (.iload_n 1, 1) := by decide +kernel
theorem dX7_measureCovers_46 : decode cX7_measureCovers 46 = .ok (.invokevirtual 264, 3) := by decide +kernel
theorem dX7_measureCovers_49 : decode cX7_measureCovers 49 = .ok (.istore_n 2, 1) := by decide +kernel
theorem dX7_measureCovers_50 : decode cX7_measureCovers 50 = .ok (.iconst 1, 1) := by decide +kernel
theorem dX7_measureCovers_51 : decode cX7_measureCovers 51 = .ok (.istore_n 3, 1) := by decide +kernel
theorem dX7_measureCovers_52 : decode cX7_measureCovers 52 = .ok (.iload_n 3, 1) := by decide +kernel
theorem dX7_measureCovers_53 : decode cX7_measureCovers 53 = .ok (.iload_n 2, 1) := by decide +kernel
theorem dX7_measureCovers_54 : decode cX7_measureCovers 54 = .ok (.if_icmp .gt 30, 3) := by decide +kernel
theorem dX7_measureCovers_57 : decode cX7_measureCovers 57 = .ok (.aload_n 0, 1) := by decide +kernel
theorem dX7_measureCovers_58 : decode cX7_measureCovers 58 = .ok (.getfield 75, 3) := by decide +kernel
theorem dX7_measureCovers_61 : decode cX7_measureCovers 61 = .ok (.iload_n 1, 1) := by decide +kernel
theorem dX7_measureCovers_62 : decode cX7_measureCovers 62 = .ok (.aload_n 0, 1) := by decide +kernel
theorem dX7_measureCovers_63 : decode cX7_measureCovers 63 = .ok (.getfield 75, 3) := by decide +kernel
theorem dX7_measureCovers_66 : decode cX7_measureCovers 66 = .ok (.iload_n 1, 1) := by decide +kernel
theorem dX7_measureCovers_67 : decode cX7_measureCovers 67 = .ok (.laload, 1) := by decide +kernel
theorem dX7_measureCovers_68 : decode cX7_measureCovers 68 = .ok (.aload_n 0, 1) := by decide +kernel
theorem dX7_measureCovers_69 : decode cX7_measureCovers 69 = .ok (.iload_n 1, 1) := by decide +kernel
theorem dX7_measureCovers_70 : decode cX7_measureCovers 70 = .ok (.iload_n 3, 1) := by decide +kernel
theorem dX7_measureCovers_71 : decode cX7_measureCovers 71 = .ok (.invokevirtual 301, 3) := by decide +kernel
theorem dX7_measureCovers_74 : decode cX7_measureCovers 74 = .ok (.invokestatic 305, 3) := by decide +kernel
theorem dX7_measureCovers_77 : decode cX7_measureCovers 77 = .ok (.lastore, 1) := by decide +kernel
theorem dX7_measureCovers_78 : decode cX7_measureCovers 78 = .ok (.iinc 3 1, 3) := by decide +kernel
theorem dX7_measureCovers_81 : decode cX7_measureCovers 81 = .ok (.goto (-29), 3) := by decide +kernel
theorem dX7_measureCovers_84 : decode cX7_measureCovers 84 = .ok (.iinc 1 (-1), 3) := by decide +kernel
theorem dX7_measureCovers_87 : decode cX7_measureCovers 87 = .ok (.goto (-64), 3) := by decide +kernel
theorem dX7_measureCovers_90 : decode cX7_measureCovers 90 = .ok (.return_, 1) := by decide +kernel
set_option maxRecDepth 20000 in
theorem ggX7_lowestBestFrom_X5_longestFrom : GoodIn wsX7_lowestBestFrom wsX5_longestFrom := goodIn_r _ [11, 12, 13, 14, 10, 15, 16, 17, 18, 19, 20, 59] (by decide +kernel) (by decide +kernel)
set_option maxRecDepth 20000 in
theorem gX7_lowestBestFrom_X5_longestFrom : GoodIn wsX7_lowestBestFrom (wsV RX7 264 RX5 yX5_longestFrom wsX5_longestFrom) := goodIn_app (goodIn_of _ (by decide +kernel)) ggX7_lowestBestFrom_X5_longestFrom
set_option maxRecDepth 20000 in
theorem ggX7_lowestBestFrom_X7_worthFrom : GoodIn wsX7_lowestBestFrom wsX7_worthFrom := goodIn_r _ [25, 1, 26, 27, 28, 29, 30, 31, 2, 32, 13, 14, 10, 15, 16, 17, 18, 19, 20, 33, 34, 35, 36, 37, 38, 39, 40, 41, 42, 43, 44, 45, 46, 47, 48, 49, 50, 51, 52, 53, 54, 55, 56, 57, 58, 60, 61, 59, 62, 63, 64, 65, 66, 67, 68] (by decide +kernel) (by decide +kernel)
set_option maxRecDepth 20000 in
theorem gX7_lowestBestFrom_X7_worthFrom : GoodIn wsX7_lowestBestFrom (wsV RX7 301 RX7 yX7_worthFrom wsX7_worthFrom) := goodIn_app (goodIn_of _ (by decide +kernel)) ggX7_lowestBestFrom_X7_worthFrom
set_option maxRecDepth 20000 in
theorem ggX7_lowestBestFrom_X5_at : GoodIn wsX7_lowestBestFrom wsX5_at := goodIn_r _ [15, 16, 17, 18, 19, 10, 20, 59] (by decide +kernel) (by decide +kernel)
set_option maxRecDepth 20000 in
theorem gX7_lowestBestFrom_X5_at : GoodIn wsX7_lowestBestFrom (wsV RX7 239 RX5 yX5_at wsX5_at) := goodIn_app (goodIn_of _ (by decide +kernel)) ggX7_lowestBestFrom_X5_at
theorem dX7_lowestBestFrom_0 : decode cX7_lowestBestFrom 0 = .ok (.iconst (-1), 1) := by decide +kernel
theorem dX7_lowestBestFrom_1 : decode cX7_lowestBestFrom 1 = .ok (.istore_n 2, 1) := by decide +kernel
theorem dX7_lowestBestFrom_2 : decode cX7_lowestBestFrom 2 = .ok (.aload_n 0, 1) := by decide +kernel
theorem dX7_lowestBestFrom_3 : decode cX7_lowestBestFrom 3 = .ok (.getfield 57, 3) := by decide +kernel
theorem dX7_lowestBestFrom_6 : decode cX7_lowestBestFrom 6 = .ok (.iload_n 1, 1) := by decide +kernel
theorem dX7_lowestBestFrom_7 : decode cX7_lowestBestFrom 7 = .ok (.invokevirtual 264, 3) := by decide +kernel
theorem dX7_lowestBestFrom_10 : decode cX7_lowestBestFrom 10 = .ok (.istore_n 3, 1) := by decide +kernel
theorem dX7_lowestBestFrom_11 : decode cX7_lowestBestFrom 11 = .ok (.iconst 1, 1) := by decide +kernel
theorem dX7_lowestBestFrom_12 : decode cX7_lowestBestFrom 12 = .ok (.istore 4, 2) := by decide +kernel
theorem dX7_lowestBestFrom_14 : decode cX7_lowestBestFrom 14 = .ok (.iload 4, 2) := by decide +kernel
theorem dX7_lowestBestFrom_16 : decode cX7_lowestBestFrom 16 = .ok (.iload_n 3, 1) := by decide +kernel
theorem dX7_lowestBestFrom_17 : decode cX7_lowestBestFrom 17 = .ok (.if_icmp .gt 55, 3) := by decide +kernel
theorem dX7_lowestBestFrom_20 : decode cX7_lowestBestFrom 20 = .ok (.aload_n 0, 1) := by decide +kernel
theorem dX7_lowestBestFrom_21 : decode cX7_lowestBestFrom 21 = .ok (.iload_n 1, 1) := by decide +kernel
theorem dX7_lowestBestFrom_22 : decode cX7_lowestBestFrom 22 = .ok (.iload 4, 2) := by decide +kernel
theorem dX7_lowestBestFrom_24 : decode cX7_lowestBestFrom 24 = .ok (.invokevirtual 301, 3) := by decide +kernel
theorem dX7_lowestBestFrom_27 : decode cX7_lowestBestFrom 27 = .ok (.aload_n 0, 1) := by decide +kernel
theorem dX7_lowestBestFrom_28 : decode cX7_lowestBestFrom 28 = .ok (.getfield 75, 3) := by decide +kernel
theorem dX7_lowestBestFrom_31 : decode cX7_lowestBestFrom 31 = .ok (.iload_n 1, 1) := by decide +kernel
theorem dX7_lowestBestFrom_32 : decode cX7_lowestBestFrom 32 = .ok (.laload, 1) := by decide +kernel
theorem dX7_lowestBestFrom_33 : decode cX7_lowestBestFrom 33 = .ok (.lcmp, 1) := by decide +kernel
theorem dX7_lowestBestFrom_34 : decode cX7_lowestBestFrom 34 = .ok (.ifCond .ne 32, 3) := by decide +kernel
theorem dX7_lowestBestFrom_37 : decode cX7_lowestBestFrom 37 = .ok (.aload_n 0, 1) := by decide +kernel
theorem dX7_lowestBestFrom_38 : decode cX7_lowestBestFrom 38 = .ok (.getfield 57, 3) := by decide +kernel
theorem dX7_lowestBestFrom_41 : decode cX7_lowestBestFrom 41 = .ok (.iload_n 1, 1) := by decide +kernel
theorem dX7_lowestBestFrom_42 : decode cX7_lowestBestFrom 42 = .ok (.iload 4, 2) := by decide +kernel
theorem dX7_lowestBestFrom_44 : decode cX7_lowestBestFrom 44 = .ok (.invokevirtual 239, 3) := by decide +kernel
theorem dX7_lowestBestFrom_47 : decode cX7_lowestBestFrom 47 = .ok (.istore 5, 2) := by decide +kernel
theorem dX7_lowestBestFrom_49 : decode cX7_lowestBestFrom 49 = .ok (.iload_n 2, 1) := by decide +kernel
theorem dX7_lowestBestFrom_50 : decode cX7_lowestBestFrom 50 = .ok (.iconst (-1), 1) := by decide +kernel
theorem dX7_lowestBestFrom_51 : decode cX7_lowestBestFrom 51 = .ok (.if_icmp .ne 8, 3) := by decide +kernel
theorem dX7_lowestBestFrom_54 : decode cX7_lowestBestFrom 54 = .ok (.iload 5, 2) := by decide +kernel
theorem dX7_lowestBestFrom_56 : decode cX7_lowestBestFrom 56 = .ok (.goto 9, 3) := by decide +kernel
theorem dX7_lowestBestFrom_59 : decode cX7_lowestBestFrom 59 = .ok (.iload_n 2, 1) := by decide +kernel
theorem dX7_lowestBestFrom_60 : decode cX7_lowestBestFrom 60 = .ok (.iload 5, 2) := by decide +kernel
theorem dX7_lowestBestFrom_62 : decode cX7_lowestBestFrom 62 = .ok (.invokestatic 197, 3) := by decide +kernel
theorem dX7_lowestBestFrom_65 : decode cX7_lowestBestFrom 65 = .ok (.istore_n 2, 1) := by decide +kernel
theorem dX7_lowestBestFrom_66 : decode cX7_lowestBestFrom 66 = .ok (.iinc 4 1, 3) := by decide +kernel
theorem dX7_lowestBestFrom_69 : decode cX7_lowestBestFrom 69 = .ok (.goto (-55), 3) := by decide +kernel
theorem dX7_lowestBestFrom_72 : decode cX7_lowestBestFrom 72 = .ok (.iload_n 2, 1) := by decide +kernel
theorem dX7_lowestBestFrom_73 : decode cX7_lowestBestFrom 73 = .ok (.ireturn, 1) := by decide +kernel
set_option maxRecDepth 20000 in
theorem ggX7_worthFrom_X5_at : GoodIn wsX7_worthFrom wsX5_at := goodIn_r _ [13, 14, 15, 16, 17, 12, 18, 47] (by decide +kernel) (by decide +kernel)
set_option maxRecDepth 20000 in
theorem gX7_worthFrom_X5_at : GoodIn wsX7_worthFrom (wsV RX7 239 RX5 yX5_at wsX5_at) := goodIn_app (goodIn_of _ (by decide +kernel)) ggX7_worthFrom_X5_at
set_option maxRecDepth 20000 in
theorem ggX7_worthFrom_X3_weightOf : GoodIn wsX7_worthFrom wsX3_weightOf := goodIn_r _ [23, 24, 25, 26, 27, 22, 28, 29, 48, 49, 50, 51, 52, 53, 54] (by decide +kernel) (by decide +kernel)
set_option maxRecDepth 20000 in
theorem gX7_worthFrom_X3_weightOf : GoodIn wsX7_worthFrom (wsV RX7 164 RX3 yX3_weightOf wsX3_weightOf) := goodIn_app (goodIn_of _ (by decide +kernel)) ggX7_worthFrom_X3_weightOf
theorem dX7_worthFrom_0 : decode cX7_worthFrom 0 = .ok (.aload_n 0, 1) := by decide +kernel
theorem dX7_worthFrom_1 : decode cX7_worthFrom 1 = .ok (.getfield 57, 3) := by decide +kernel
theorem dX7_worthFrom_4 : decode cX7_worthFrom 4 = .ok (.iload_n 1, 1) := by decide +kernel
theorem dX7_worthFrom_5 : decode cX7_worthFrom 5 = .ok (.iload_n 2, 1) := by decide +kernel
theorem dX7_worthFrom_6 : decode cX7_worthFrom 6 = .ok (.invokevirtual 239, 3) := by decide +kernel
theorem dX7_worthFrom_9 : decode cX7_worthFrom 9 = .ok (.istore_n 3, 1) := by decide +kernel
theorem dX7_worthFrom_10 : decode cX7_worthFrom 10 = .ok (.iload_n 3, 1) := by decide +kernel
theorem dX7_worthFrom_11 : decode cX7_worthFrom 11 = .ok (.iconst (-1), 1) := by decide +kernel
theorem dX7_worthFrom_12 : decode cX7_worthFrom 12 = .ok (.if_icmp .eq 16, 3) := by decide +kernel
theorem dX7_worthFrom_15 : decode cX7_worthFrom 15 = .ok (.iload_n 1, 1) := by decide +kernel
theorem dX7_worthFrom_16 : decode cX7_worthFrom 16 = .ok (.iload_n 2, 1) := by decide +kernel
theorem dX7_worthFrom_17 : decode cX7_worthFrom 17 = .ok (.iadd, 1) := by decide +kernel
theorem dX7_worthFrom_18 : decode cX7_worthFrom 18 = .ok (.aload_n 0, 1) := by decide +kernel
theorem dX7_worthFrom_19 : decode cX7_worthFrom 19 = .ok (.getfield 51, 3) := by decide +kernel
theorem dX7_worthFrom_22 : decode cX7_worthFrom 22 = .ok (.getfield 89, 3) := by decide +kernel
theorem dX7_worthFrom_25 : decode cX7_worthFrom 25 = .ok (.if_icmp .le 7, 3) := by decide +kernel
theorem dX7_worthFrom_28 : decode cX7_worthFrom 28 = .ok (.ldc2_w 308, 3) := by decide +kernel
theorem dX7_worthFrom_31 : decode cX7_worthFrom 31 = .ok (.lreturn, 1) := by decide +kernel
theorem dX7_worthFrom_32 : decode cX7_worthFrom 32 = .ok (.iload_n 2, 1) := by decide +kernel
theorem dX7_worthFrom_33 : decode cX7_worthFrom 33 = .ok (.i2l, 1) := by decide +kernel
theorem dX7_worthFrom_34 : decode cX7_worthFrom 34 = .ok (.ldc2_w 310, 3) := by decide +kernel
theorem dX7_worthFrom_37 : decode cX7_worthFrom 37 = .ok (.lmul, 1) := by decide +kernel
theorem dX7_worthFrom_38 : decode cX7_worthFrom 38 = .ok (.aload_n 0, 1) := by decide +kernel
theorem dX7_worthFrom_39 : decode cX7_worthFrom 39 = .ok (.getfield 30, 3) := by decide +kernel
theorem dX7_worthFrom_42 : decode cX7_worthFrom 42 = .ok (.iload_n 3, 1) := by decide +kernel
theorem dX7_worthFrom_43 : decode cX7_worthFrom 43 = .ok (.invokevirtual 164, 3) := by decide +kernel
theorem dX7_worthFrom_46 : decode cX7_worthFrom 46 = .ok (.i2l, 1) := by decide +kernel
theorem dX7_worthFrom_47 : decode cX7_worthFrom 47 = .ok (.ldc2_w 312, 3) := by decide +kernel
theorem dX7_worthFrom_50 : decode cX7_worthFrom 50 = .ok (.lmul, 1) := by decide +kernel
theorem dX7_worthFrom_51 : decode cX7_worthFrom 51 = .ok (.ladd, 1) := by decide +kernel
theorem dX7_worthFrom_52 : decode cX7_worthFrom 52 = .ok (.lconst 1, 1) := by decide +kernel
theorem dX7_worthFrom_53 : decode cX7_worthFrom 53 = .ok (.lsub, 1) := by decide +kernel
theorem dX7_worthFrom_54 : decode cX7_worthFrom 54 = .ok (.aload_n 0, 1) := by decide +kernel
theorem dX7_worthFrom_55 : decode cX7_worthFrom 55 = .ok (.getfield 75, 3) := by decide +kernel
theorem dX7_worthFrom_58 : decode cX7_worthFrom 58 = .ok (.iload_n 1, 1) := by decide +kernel
theorem dX7_worthFrom_59 : decode cX7_worthFrom 59 = .ok (.iload_n 2, 1) := by decide +kernel
theorem dX7_worthFrom_60 : decode cX7_worthFrom 60 = .ok (.iadd, 1) := by decide +kernel
theorem dX7_worthFrom_61 : decode cX7_worthFrom 61 = .ok (.laload, 1) := by decide +kernel
theorem dX7_worthFrom_62 : decode cX7_worthFrom 62 = .ok (.ladd, 1) := by decide +kernel
theorem dX7_worthFrom_63 : decode cX7_worthFrom 63 = .ok (.lreturn, 1) := by decide +kernel
set_option maxRecDepth 20000 in
theorem ggX7_longestSize_X7_chooseLongest : GoodIn wsX7_longestSize wsX7_chooseLongest := goodIn_r _ [7, 1, 8, 9, 10, 11, 12, 13, 14, 15, 16, 17, 18, 19, 20, 21, 22, 23, 24, 25, 26, 27, 28, 29, 30, 31, 32, 33, 34, 35, 36, 37, 38, 39, 40, 41, 42, 43, 44, 45, 46, 47, 48, 49, 50, 51, 52, 56, 57, 53, 54, 55, 58] (by decide +kernel) (by decide +kernel)
set_option maxRecDepth 20000 in
theorem gX7_longestSize_X7_chooseLongest : GoodIn wsX7_longestSize (wsV RX7 314 RX7 yX7_chooseLongest wsX7_chooseLongest) := goodIn_app (goodIn_of _ (by decide +kernel)) ggX7_longestSize_X7_chooseLongest
theorem dX7_longestSize_0 : decode cX7_longestSize 0 = .ok (.aload_n 0, 1) := by decide +kernel
theorem dX7_longestSize_1 : decode cX7_longestSize 1 = .ok (.invokevirtual 314, 3) := by decide +kernel
theorem dX7_longestSize_4 : decode cX7_longestSize 4 = .ok (.aload_n 0, 1) := by decide +kernel
theorem dX7_longestSize_5 : decode cX7_longestSize 5 = .ok (.getfield 68, 3) := by decide +kernel
theorem dX7_longestSize_8 : decode cX7_longestSize 8 = .ok (.getfield 292, 3) := by decide +kernel
theorem dX7_longestSize_11 : decode cX7_longestSize 11 = .ok (.ireturn, 1) := by decide +kernel
set_option maxRecDepth 20000 in
theorem ggX7_longestStart_X7_chooseLongest : GoodIn wsX7_longestStart wsX7_chooseLongest := goodIn_r _ [6, 1, 7, 8, 9, 10, 11, 12, 13, 14, 15, 16, 17, 18, 19, 20, 21, 22, 23, 24, 25, 26, 27, 28, 29, 30, 31, 32, 33, 34, 35, 36, 41, 42, 43, 44, 45, 46, 47, 48, 49, 50, 51, 52, 53, 54, 55, 56, 57, 58, 59, 60, 61] (by decide +kernel) (by decide +kernel)
set_option maxRecDepth 20000 in
theorem gX7_longestStart_X7_chooseLongest : GoodIn wsX7_longestStart (wsV RX7 314 RX7 yX7_chooseLongest wsX7_chooseLongest) := goodIn_app (goodIn_of _ (by decide +kernel)) ggX7_longestStart_X7_chooseLongest
set_option maxRecDepth 20000 in
theorem ggX7_longestStart_X4_positionAt : GoodIn wsX7_longestStart wsX4_positionAt := goodIn_r _ [40, 15, 35, 58, 59, 60] (by decide +kernel) (by decide +kernel)
set_option maxRecDepth 20000 in
theorem gX7_longestStart_X4_positionAt : GoodIn wsX7_longestStart (wsV RX7 246 RX4 yX4_positionAt wsX4_positionAt) := goodIn_app (goodIn_of _ (by decide +kernel)) ggX7_longestStart_X4_positionAt
theorem dX7_longestStart_0 : decode cX7_longestStart 0 = .ok (.iload_n 1, 1) := by decide +kernel
theorem dX7_longestStart_1 : decode cX7_longestStart 1 = .ok (.ifCond .ge 6, 3) := by decide +kernel
theorem dX7_longestStart_4 : decode cX7_longestStart 4 = .ok (.bipush (-3), 2) := by decide +kernel
theorem dX7_longestStart_6 : decode cX7_longestStart 6 = .ok (.ireturn, 1) := by decide +kernel
theorem dX7_longestStart_7 : decode cX7_longestStart 7 = .ok (.aload_n 0, 1) := by decide +kernel
theorem dX7_longestStart_8 : decode cX7_longestStart 8 = .ok (.invokevirtual 314, 3) := by decide +kernel
theorem dX7_longestStart_11 : decode cX7_longestStart 11 = .ok (.aload_n 0, 1) := by decide +kernel
theorem dX7_longestStart_12 : decode cX7_longestStart 12 = .ok (.getfield 68, 3) := by decide +kernel
theorem dX7_longestStart_15 : decode cX7_longestStart 15 = .ok (.iload_n 1, 1) := by decide +kernel
theorem dX7_longestStart_16 : decode cX7_longestStart 16 = .ok (.invokevirtual 246, 3) := by decide +kernel
theorem dX7_longestStart_19 : decode cX7_longestStart 19 = .ok (.ireturn, 1) := by decide +kernel
set_option maxRecDepth 20000 in
theorem ggX7_longestKeyword_X7_chooseLongest : GoodIn wsX7_longestKeyword wsX7_chooseLongest := goodIn_r _ [6, 1, 7, 8, 9, 10, 11, 12, 13, 14, 15, 16, 17, 18, 19, 20, 21, 22, 23, 24, 25, 26, 27, 28, 29, 30, 31, 32, 33, 34, 35, 36, 41, 42, 43, 44, 45, 46, 47, 48, 49, 50, 51, 52, 53, 54, 55, 56, 57, 58, 59, 60, 61] (by decide +kernel) (by decide +kernel)
set_option maxRecDepth 20000 in
theorem gX7_longestKeyword_X7_chooseLongest : GoodIn wsX7_longestKeyword (wsV RX7 314 RX7 yX7_chooseLongest wsX7_chooseLongest) := goodIn_app (goodIn_of _ (by decide +kernel)) ggX7_longestKeyword_X7_chooseLongest
set_option maxRecDepth 20000 in
theorem ggX7_longestKeyword_X4_keywordAt : GoodIn wsX7_longestKeyword wsX4_keywordAt := goodIn_r _ [40, 15, 36, 58, 59, 60] (by decide +kernel) (by decide +kernel)
set_option maxRecDepth 20000 in
theorem gX7_longestKeyword_X4_keywordAt : GoodIn wsX7_longestKeyword (wsV RX7 249 RX4 yX4_keywordAt wsX4_keywordAt) := goodIn_app (goodIn_of _ (by decide +kernel)) ggX7_longestKeyword_X4_keywordAt
theorem dX7_longestKeyword_0 : decode cX7_longestKeyword 0 = .ok (.iload_n 1, 1) := by decide +kernel
theorem dX7_longestKeyword_1 : decode cX7_longestKeyword 1 = .ok (.ifCond .ge 6, 3) := by decide +kernel
theorem dX7_longestKeyword_4 : decode cX7_longestKeyword 4 = .ok (.bipush (-3), 2) := by decide +kernel
theorem dX7_longestKeyword_6 : decode cX7_longestKeyword 6 = .ok (.ireturn, 1) := by decide +kernel
theorem dX7_longestKeyword_7 : decode cX7_longestKeyword 7 = .ok (.aload_n 0, 1) := by decide +kernel
theorem dX7_longestKeyword_8 : decode cX7_longestKeyword 8 = .ok (.invokevirtual 314, 3) := by decide +kernel
theorem dX7_longestKeyword_11 : decode cX7_longestKeyword 11 = .ok (.aload_n 0, 1) := by decide +kernel
theorem dX7_longestKeyword_12 : decode cX7_longestKeyword 12 = .ok (.getfield 68, 3) := by decide +kernel
theorem dX7_longestKeyword_15 : decode cX7_longestKeyword 15 = .ok (.iload_n 1, 1) := by decide +kernel
theorem dX7_longestKeyword_16 : decode cX7_longestKeyword 16 = .ok (.invokevirtual 249, 3) := by decide +kernel
theorem dX7_longestKeyword_19 : decode cX7_longestKeyword 19 = .ok (.ireturn, 1) := by decide +kernel
set_option maxRecDepth 20000 in
theorem ggX7_chooseLongest_X4_clear : GoodIn wsX7_chooseLongest wsX4_clear := goodIn_r _ [9, 10, 49, 50, 51] (by decide +kernel) (by decide +kernel)
set_option maxRecDepth 20000 in
theorem gX7_chooseLongest_X4_clear : GoodIn wsX7_chooseLongest (wsV RX7 245 RX4 yX4_clear wsX4_clear) := goodIn_app (goodIn_of _ (by decide +kernel)) ggX7_chooseLongest_X4_clear
set_option maxRecDepth 20000 in
theorem ggX7_chooseLongest_X5_longestFrom : GoodIn wsX7_chooseLongest wsX5_longestFrom := goodIn_r _ [15, 16, 17, 18, 14, 19, 20, 21, 22, 23, 24, 52] (by decide +kernel) (by decide +kernel)
set_option maxRecDepth 20000 in
theorem gX7_chooseLongest_X5_longestFrom : GoodIn wsX7_chooseLongest (wsV RX7 264 RX5 yX5_longestFrom wsX5_longestFrom) := goodIn_app (goodIn_of _ (by decide +kernel)) ggX7_chooseLongest_X5_longestFrom
set_option maxRecDepth 20000 in
theorem ggX7_chooseLongest_X5_at : GoodIn wsX7_chooseLongest wsX5_at := goodIn_r _ [19, 20, 21, 22, 23, 14, 24, 52] (by decide +kernel) (by decide +kernel)
set_option maxRecDepth 20000 in
theorem gX7_chooseLongest_X5_at : GoodIn wsX7_chooseLongest (wsV RX7 239 RX5 yX5_at wsX5_at) := goodIn_app (goodIn_of _ (by decide +kernel)) ggX7_chooseLongest_X5_at
set_option maxRecDepth 20000 in
theorem ggX7_chooseLongest_X4_add : GoodIn wsX7_chooseLongest wsX4_add := goodIn_r _ [29, 10, 30, 31, 49, 50, 51] (by decide +kernel) (by decide +kernel)
set_option maxRecDepth 20000 in
theorem gX7_chooseLongest_X4_add : GoodIn wsX7_chooseLongest (wsV RX7 241 RX4 yX4_add wsX4_add) := goodIn_app (goodIn_of _ (by decide +kernel)) ggX7_chooseLongest_X4_add
theorem dX7_chooseLongest_0 : decode cX7_chooseLongest 0 = .ok (.aload_n 0, 1) := by decide +kernel
theorem dX7_chooseLongest_1 : decode cX7_chooseLongest 1 = .ok (.getfield 68, 3) := by decide +kernel
theorem dX7_chooseLongest_4 : decode cX7_chooseLongest 4 = .ok (.invokevirtual 245, 3) := by decide +kernel
theorem dX7_chooseLongest_7 : decode cX7_chooseLongest 7 = .ok (.iconst 0, 1) := by decide +kernel
theorem dX7_chooseLongest_8 : decode cX7_chooseLongest 8 = .ok (.istore_n 1, 1) := by decide +kernel
theorem dX7_chooseLongest_9 : decode cX7_chooseLongest 9 = .ok (.iconst 0, 1) := by decide +kernel
theorem dX7_chooseLongest_10 : decode cX7_chooseLongest 10 = .ok (.istore_n 2, 1) := by decide +kernel
theorem dX7_chooseLongest_11 : decode cX7_chooseLongest 11 = .ok (.iload_n 2, 1) := by decide +kernel
theorem dX7_chooseLongest_12 : decode cX7_chooseLongest 12 = .ok (.aload_n 0, 1) := by decide +kernel
theorem dX7_chooseLongest_13 : decode cX7_chooseLongest 13 = .ok (.getfield 51, 3) := by decide +kernel
theorem dX7_chooseLongest_16 : decode cX7_chooseLongest 16 = .ok (.getfield 89, 3) := by decide +kernel
theorem dX7_chooseLongest_19 : decode cX7_chooseLongest 19 = .ok (.if_icmp .ge 52, 3) := by decide +kernel
theorem dX7_chooseLongest_22 : decode cX7_chooseLongest 22 = .ok (.iload_n 2, 1) := by decide +kernel
theorem dX7_chooseLongest_23 : decode cX7_chooseLongest 23 = .ok (.iload_n 1, 1) := by decide +kernel
theorem dX7_chooseLongest_24 : decode cX7_chooseLongest 24 = .ok (.if_icmp .ge 7, 3) := by decide +kernel
theorem dX7_chooseLongest_27 : decode cX7_chooseLongest 27 = .ok (.iconst 0, 1) := by decide +kernel
theorem dX7_chooseLongest_28 : decode cX7_chooseLongest 28 = .ok (.goto 11, 3) := by decide +kernel
theorem dX7_chooseLongest_31 : decode cX7_chooseLongest 31 = .ok (.aload_n 0, 1) := by decide +kernel
theorem dX7_chooseLongest_32 : decode cX7_chooseLongest 32 = .ok (.getfield 57, 3) := by decide +kernel
theorem dX7_chooseLongest_35 : decode cX7_chooseLongest 35 = .ok (.iload_n 2, 1) := by decide +kernel
theorem dX7_chooseLongest_36 : decode cX7_chooseLongest 36 = .ok (.invokevirtual 264, 3) := by decide +kernel
theorem dX7_chooseLongest_39 : decode cX7_chooseLongest 39 = .ok (.istore_n 3, 1) := by decide +kernel
theorem dX7_chooseLongest_40 : decode cX7_chooseLongest 40 = .ok (.iload_n 3, 1) := by decide +kernel
theorem dX7_chooseLongest_41 : decode cX7_chooseLongest 41 = .ok (.ifCond .le 24, 3) := by decide +kernel
theorem dX7_chooseLongest_44 : decode cX7_chooseLongest 44 = .ok (.aload_n 0, 1) := by decide +kernel
theorem dX7_chooseLongest_45 : decode cX7_chooseLongest 45 = .ok (.getfield 68, 3) := by decide +kernel
theorem dX7_chooseLongest_48 : decode cX7_chooseLongest 48 = .ok (.iload_n 2, 1) := by decide +kernel
theorem dX7_chooseLongest_49 : decode cX7_chooseLongest 49 = .ok (.aload_n 0, 1) := by decide +kernel
theorem dX7_chooseLongest_50 : decode cX7_chooseLongest 50 = .ok (.getfield 57, 3) := by decide +kernel
theorem dX7_chooseLongest_53 : decode cX7_chooseLongest 53 = .ok (.iload_n 2, 1) := by decide +kernel
theorem dX7_chooseLongest_54 : decode cX7_chooseLongest 54 = .ok (.iload_n 3, 1) := by decide +kernel
theorem dX7_chooseLongest_55 : decode cX7_chooseLongest 55 = .ok (.invokevirtual 239, 3) := by decide +kernel
theorem dX7_chooseLongest_58 : decode cX7_chooseLongest 58 = .ok (.invokevirtual 241, 3) := by decide +kernel
theorem dX7_chooseLongest_61 : decode cX7_chooseLongest 61 = .ok (.iload_n 2, 1) := by decide +kernel
theorem dX7_chooseLongest_62 : decode cX7_chooseLongest 62 = .ok (.iload_n 3, 1) := by decide +kernel
theorem dX7_chooseLongest_63 : decode cX7_chooseLongest 63 = .ok (.iadd, 1) := by decide +kernel
theorem dX7_chooseLongest_64 : decode cX7_chooseLongest 64 = .ok (.istore_n 1, 1) := by decide +kernel
theorem dX7_chooseLongest_65 : decode cX7_chooseLongest 65 = .ok (.iinc 2 1, 3) := by decide +kernel
theorem dX7_chooseLongest_68 : decode cX7_chooseLongest 68 = .ok (.goto (-57), 3) := by decide +kernel
theorem dX7_chooseLongest_71 : decode cX7_chooseLongest 71 = .ok (.return_, 1) := by decide +kernel
theorem dX8_isIn_0 : decode cX8_isIn 0 = .ok (.lload_n 0, 1) := by decide +kernel
theorem dX8_isIn_1 : decode cX8_isIn 1 = .ok (.lload_n 2, 1) := by decide +kernel
theorem dX8_isIn_2 : decode cX8_isIn 2 = .ok (.lcmp, 1) := by decide +kernel
theorem dX8_isIn_3 : decode cX8_isIn 3 = .ok (.ifCond .lt 14, 3) := by decide +kernel
theorem dX8_isIn_6 : decode cX8_isIn 6 = .ok (.lload_n 0, 1) := by decide +kernel
theorem dX8_isIn_7 : decode cX8_isIn 7 = .ok (.lload 4, 2) := by decide +kernel
theorem dX8_isIn_9 : decode cX8_isIn 9 = .ok (.lcmp, 1) := by decide +kernel
theorem dX8_isIn_10 : decode cX8_isIn 10 = .ok (.ifCond .gt 7, 3) := by decide +kernel
theorem dX8_isIn_13 : decode cX8_isIn 13 = .ok (.iconst 1, 1) := by decide +kernel
theorem dX8_isIn_14 : decode cX8_isIn 14 = .ok (.goto 4, 3) := by decide +kernel
theorem dX8_isIn_17 : decode cX8_isIn 17 = .ok (.iconst 0, 1) := by decide +kernel
theorem dX8_isIn_18 : decode cX8_isIn 18 = .ok (.ireturn, 1) := by decide +kernel
theorem dX8_init_0 : decode cX8_init 0 = .ok (.aload_n 0, 1) := by decide +kernel
theorem dX8_init_1 : decode cX8_init 1 = .ok (.invokespecial 7, 3) := by decide +kernel
theorem dX8_init_4 : decode cX8_init 4 = .ok (.aload_n 0, 1) := by decide +kernel
theorem dX8_init_5 : decode cX8_init 5 = .ok (.sipush 200, 3) := by decide +kernel
theorem dX8_init_8 : decode cX8_init 8 = .ok (.newarray .int, 2) := by decide +kernel
theorem dX8_init_10 : decode cX8_init 10 = .ok (.putfield 13, 3) := by decide +kernel
theorem dX8_init_13 : decode cX8_init 13 = .ok (.aload_n 0, 1) := by decide +kernel
theorem dX8_init_14 : decode cX8_init 14 = .ok (.bipush 120, 2) := by decide +kernel
theorem dX8_init_16 : decode cX8_init 16 = .ok (.newarray .int, 2) := by decide +kernel
theorem dX8_init_18 : decode cX8_init 18 = .ok (.putfield 17, 3) := by decide +kernel
theorem dX8_init_21 : decode cX8_init 21 = .ok (.aload_n 0, 1) := by decide +kernel
theorem dX8_init_22 : decode cX8_init 22 = .ok (.sipush 1920, 3) := by decide +kernel
theorem dX8_init_25 : decode cX8_init 25 = .ok (.newarray .int, 2) := by decide +kernel
theorem dX8_init_27 : decode cX8_init 27 = .ok (.putfield 20, 3) := by decide +kernel
theorem dX8_init_30 : decode cX8_init 30 = .ok (.aload_n 0, 1) := by decide +kernel
theorem dX8_init_31 : decode cX8_init 31 = .ok (.bipush 120, 2) := by decide +kernel
theorem dX8_init_33 : decode cX8_init 33 = .ok (.newarray .int, 2) := by decide +kernel
theorem dX8_init_35 : decode cX8_init 35 = .ok (.putfield 23, 3) := by decide +kernel
theorem dX8_init_38 : decode cX8_init 38 = .ok (.aload_n 0, 1) := by decide +kernel
theorem dX8_init_39 : decode cX8_init 39 = .ok (.bipush 120, 2) := by decide +kernel
theorem dX8_init_41 : decode cX8_init 41 = .ok (.newarray .boolean, 2) := by decide +kernel
theorem dX8_init_43 : decode cX8_init 43 = .ok (.putfield 26, 3) := by decide +kernel
theorem dX8_init_46 : decode cX8_init 46 = .ok (.aload_n 0, 1) := by decide +kernel
theorem dX8_init_47 : decode cX8_init 47 = .ok (.bipush 14, 2) := by decide +kernel
theorem dX8_init_49 : decode cX8_init 49 = .ok (.newarray .int, 2) := by decide +kernel
theorem dX8_init_51 : decode cX8_init 51 = .ok (.putfield 30, 3) := by decide +kernel
theorem dX8_init_54 : decode cX8_init 54 = .ok (.aload_n 0, 1) := by decide +kernel
theorem dX8_init_55 : decode cX8_init 55 = .ok (.sipush 1792, 3) := by decide +kernel
theorem dX8_init_58 : decode cX8_init 58 = .ok (.newarray .int, 2) := by decide +kernel
theorem dX8_init_60 : decode cX8_init 60 = .ok (.putfield 33, 3) := by decide +kernel
theorem dX8_init_63 : decode cX8_init 63 = .ok (.aload_n 0, 1) := by decide +kernel
theorem dX8_init_64 : decode cX8_init 64 = .ok (.sipush 128, 3) := by decide +kernel
theorem dX8_init_67 : decode cX8_init 67 = .ok (.newarray .int, 2) := by decide +kernel
theorem dX8_init_69 : decode cX8_init 69 = .ok (.putfield 36, 3) := by decide +kernel
theorem dX8_init_72 : decode cX8_init 72 = .ok (.aload_n 0, 1) := by decide +kernel
theorem dX8_init_73 : decode cX8_init 73 = .ok (.bipush 8, 2) := by decide +kernel
theorem dX8_init_75 : decode cX8_init 75 = .ok (.newarray .int, 2) := by decide +kernel
theorem dX8_init_77 : decode cX8_init 77 = .ok (.putfield 39, 3) := by decide +kernel
theorem dX8_init_80 : decode cX8_init 80 = .ok (.aload_n 0, 1) := by decide +kernel
theorem dX8_init_81 : decode cX8_init 81 = .ok (.sipush 600, 3) := by decide +kernel
theorem dX8_init_84 : decode cX8_init 84 = .ok (.newarray .int, 2) := by decide +kernel
theorem dX8_init_86 : decode cX8_init 86 = .ok (.putfield 42, 3) := by decide +kernel
theorem dX8_init_89 : decode cX8_init 89 = .ok (.aload_n 0, 1) := by decide +kernel
theorem dX8_init_90 : decode cX8_init 90 = .ok (.sipush 300, 3) := by decide +kernel
theorem dX8_init_93 : decode cX8_init 93 = .ok (.newarray .int, 2) := by decide +kernel
theorem dX8_init_95 : decode cX8_init 95 = .ok (.putfield 45, 3) := by decide +kernel
theorem dX8_init_98 : decode cX8_init 98 = .ok (.aload_n 0, 1) := by decide +kernel
theorem dX8_init_99 : decode cX8_init 99 = .ok (.sipush 300, 3) := by decide +kernel
theorem dX8_init_102 : decode cX8_init 102 = .ok (.newarray .int, 2) := by decide +kernel
theorem dX8_init_104 : decode cX8_init 104 = .ok (.putfield 48, 3) := by decide +kernel
theorem dX8_init_107 : decode cX8_init 107 = .ok (.aload_n 0, 1) := by decide +kernel
theorem dX8_init_108 : decode cX8_init 108 = .ok (.sipush 600, 3) := by decide +kernel
theorem dX8_init_111 : decode cX8_init 111 = .ok (.newarray .int, 2) := by decide +kernel
theorem dX8_init_113 : decode cX8_init 113 = .ok (.putfield 51, 3) := by decide +kernel
theorem dX8_init_116 : decode cX8_init 116 = .ok (.aload_n 0, 1) := by decide +kernel
theorem dX8_init_117 : decode cX8_init 117 = .ok (.sipush 10200, 3) := by decide +kernel
theorem dX8_init_120 : decode cX8_init 120 = .ok (.newarray .int, 2) := by decide +kernel
theorem dX8_init_122 : decode cX8_init 122 = .ok (.putfield 54, 3) := by decide +kernel
theorem dX8_init_125 : decode cX8_init 125 = .ok (.aload_n 0, 1) := by decide +kernel
theorem dX8_init_126 : decode cX8_init 126 = .ok (.bipush 40, 2) := by decide +kernel
theorem dX8_init_128 : decode cX8_init 128 = .ok (.newarray .int, 2) := by decide +kernel
theorem dX8_init_130 : decode cX8_init 130 = .ok (.putfield 57, 3) := by decide +kernel
theorem dX8_init_133 : decode cX8_init 133 = .ok (.aload_n 0, 1) := by decide +kernel
theorem dX8_init_134 : decode cX8_init 134 = .ok (.bipush 120, 2) := by decide +kernel
theorem dX8_init_136 : decode cX8_init 136 = .ok (.newarray .int, 2) := by decide +kernel
theorem dX8_init_138 : decode cX8_init 138 = .ok (.putfield 60, 3) := by decide +kernel
theorem dX8_init_141 : decode cX8_init 141 = .ok (.aload_n 0, 1) := by decide +kernel
theorem dX8_init_142 : decode cX8_init 142 = .ok (.sipush 1800, 3) := by decide +kernel
theorem dX8_init_145 : decode cX8_init 145 = .ok (.newarray .int, 2) := by decide +kernel
theorem dX8_init_147 : decode cX8_init 147 = .ok (.putfield 63, 3) := by decide +kernel
theorem dX8_init_150 : decode cX8_init 150 = .ok (.aload_n 0, 1) := by decide +kernel
theorem dX8_init_151 : decode cX8_init 151 = .ok (.sipush 1800, 3) := by decide +kernel
theorem dX8_init_154 : decode cX8_init 154 = .ok (.newarray .int, 2) := by decide +kernel
theorem dX8_init_156 : decode cX8_init 156 = .ok (.putfield 66, 3) := by decide +kernel
theorem dX8_init_159 : decode cX8_init 159 = .ok (.aload_n 0, 1) := by decide +kernel
theorem dX8_init_160 : decode cX8_init 160 = .ok (.bipush 120, 2) := by decide +kernel
theorem dX8_init_162 : decode cX8_init 162 = .ok (.newarray .int, 2) := by decide +kernel
theorem dX8_init_164 : decode cX8_init 164 = .ok (.putfield 69, 3) := by decide +kernel
theorem dX8_init_167 : decode cX8_init 167 = .ok (.aload_n 0, 1) := by decide +kernel
theorem dX8_init_168 : decode cX8_init 168 = .ok (.bipush 120, 2) := by decide +kernel
theorem dX8_init_170 : decode cX8_init 170 = .ok (.newarray .int, 2) := by decide +kernel
theorem dX8_init_172 : decode cX8_init 172 = .ok (.putfield 72, 3) := by decide +kernel
theorem dX8_init_175 : decode cX8_init 175 = .ok (.aload_n 0, 1) := by decide +kernel
theorem dX8_init_176 : decode cX8_init 176 = .ok (.bipush 120, 2) := by decide +kernel
theorem dX8_init_178 : decode cX8_init 178 = .ok (.newarray .int, 2) := by decide +kernel
theorem dX8_init_180 : decode cX8_init 180 = .ok (.putfield 75, 3) := by decide +kernel
theorem dX8_init_183 : decode cX8_init 183 = .ok (.aload_n 0, 1) := by decide +kernel
theorem dX8_init_184 : decode cX8_init 184 = .ok (.sipush 640, 3) := by decide +kernel
theorem dX8_init_187 : decode cX8_init 187 = .ok (.newarray .int, 2) := by decide +kernel
theorem dX8_init_189 : decode cX8_init 189 = .ok (.putfield 78, 3) := by decide +kernel
theorem dX8_init_192 : decode cX8_init 192 = .ok (.aload_n 0, 1) := by decide +kernel
theorem dX8_init_193 : decode cX8_init 193 = .ok (.bipush 45, 2) := by decide +kernel
theorem dX8_init_195 : decode cX8_init 195 = .ok (.newarray .int, 2) := by decide +kernel
theorem dX8_init_197 : decode cX8_init 197 = .ok (.putfield 81, 3) := by decide +kernel
theorem dX8_init_200 : decode cX8_init 200 = .ok (.aload_n 0, 1) := by decide +kernel
theorem dX8_init_201 : decode cX8_init 201 = .ok (.sipush 601, 3) := by decide +kernel
theorem dX8_init_204 : decode cX8_init 204 = .ok (.newarray .int, 2) := by decide +kernel
theorem dX8_init_206 : decode cX8_init 206 = .ok (.putfield 84, 3) := by decide +kernel
theorem dX8_init_209 : decode cX8_init 209 = .ok (.aload_n 0, 1) := by decide +kernel
